-- ZL
set_option maxRecDepth 10000 in
theorem r92_b {s : Nat} (hs : s < 2) {q c : Int} (hq0 : szL s ≤ q) (hc0 : 0 ≤ c) : 0 ≤ r92 s q c ∧ r92 s q c ≤ (2 ^ szK s - 1) * 2 ^ (szD s - 1) := by
  have hP := p2_pos (szD s - 1)
  have hr0 : 0 ≤ c % 2 ^ (szD s - 1) := Int.emod_nonneg _ (by omega)
  have hr1 : c % 2 ^ (szD s - 1) < 2 ^ (szD s - 1) := Int.emod_lt_of_pos _ hP
  have hG : szG s - szL s + 2 = 2 ^ szK s - 1 ∧ 1 ≤ (2 : Int) ^ szK s - 1 := by
    rcases sz_cases hs with h | h
    · obtain ⟨_, _, h2, h3, _, h5⟩ := h; rw [h2, h3, h5]; decide
    · obtain ⟨_, _, h2, h3, _, h5⟩ := h; rw [h2, h3, h5]; decide
  have hG2 := hG.2
  unfold r92
  rw [← hG.1] at hG2 ⊢
  generalize (2 : Int) ^ (szD s - 1) = P at *
  split
  · split
    · have : 1 * P ≤ (szG s - szL s + 2) * P := Int.mul_le_mul_of_nonneg_right hG2 (by omega)
      omega
    · have a1 : 0 ≤ (q - szL s + 1) * P := Int.mul_nonneg (by omega) (by omega)
      have a2 : (q - szL s + 1) * P ≤ (szG s - szL s + 1) * P := Int.mul_le_mul_of_nonneg_right (by omega) (by omega)
      have a3 : (szG s - szL s + 2) * P = (szG s - szL s + 1) * P + P := by
        rw [show szG s - szL s + 2 = (szG s - szL s + 1) + 1 by omega, Int.add_mul, Int.one_mul]
      omega
  · exact ⟨Int.mul_nonneg (by omega) (by omega), Int.le_refl _⟩
set_option maxRecDepth 10000 in
theorem r69_b {s : Nat} (hs : s < 2) {q c : Int} (hq0 : szL s ≤ q) (hc0 : 0 ≤ c) : 0 ≤ r69 s q c ∧ r69 s q c ≤ (2 ^ szK s - 1) * 2 ^ (szD s - 1) := by
  unfold r69
  split
  · exact r92_b hs hq0 hc0
  · exact r92_b hs (by omega) (by omega)
set_option maxRecDepth 10000 in
theorem roV_b {s : Nat} (hs : s < 2) {m t : Int} (h0 : 0 ≤ m) {b : Nat} : 0 ≤ roV s m t b ∧ roV s m t b ≤ (2 ^ szK s - 1) * 2 ^ (szD s - 1) := by
  have ib := (inf_b hs).1
  have hQ0 : szL s ≤ max (t + b - szD s) (szL s) := Int.le_max_right _ _
  unfold roV
  split
  · omega
  · split
    · omega
    · split
      · exact r69_b hs hQ0 (Int.mul_nonneg h0 (by have := p2_pos (t - max (t + b - szD s) (szL s)).toNat; omega))
      · exact r69_b hs hQ0 (neV_b h0 _).1
set_option maxRecDepth 10000 in
theorem l_or_comm (x y : Int64) : x ||| y = y ||| x := by
  apply Int64.toBitVec_inj.mp
  rw [Int64.toBitVec_or, Int64.toBitVec_or, BitVec.or_comm]
set_option maxRecDepth 10000 in
theorem rd39 {s : Nat} (hs : s < 2) {x : Int} (h0 : 0 ≤ x) (h1 : x ≤ (2 ^ szK s - 1) * 2 ^ (szD s - 1)) (fo : Int32) (ma : Int64) (po : Int32) (ng : Int32) : f_Rd_rounded_39 s (iL x) fo ma po ng = some (iL (x + (if ng = 0 then 0 else 2 ^ szS s))) := by
  obtain ⟨g0, g1, g2, g3⟩ := gz hs
  have e3 : (gx_sz 3).getD s 0 = iI (szS s) := g3
  have hS : szS s < 64 ∧ (2 ^ szK s - 1) * 2 ^ (szD s - 1) < (2 : Int) ^ szS s ∧ (2 : Int) ^ szS s ≤ 9223372036854775808 := by
    rcases sz_cases hs with h | h
    · obtain ⟨_, h1, h2, h3, h4, h5⟩ := h; rw [h1, h4, h5]; decide
    · obtain ⟨_, h1, h2, h3, h4, h5⟩ := h; rw [h1, h4, h5]; decide
  unfold f_Rd_rounded_39
  by_cases q : ng = 0
  · rw [if_pos q, if_pos q, Int.add_zero]
  · rw [if_neg q, if_neg q, if_pos hs, e3, iI_l (by omega) (by omega), show (63 : Int64) = iL 63 from rfl, show (1 : Int64) = iL 1 from rfl, l_shlI (by omega) (by omega), Int.toNat_natCast, l_or_comm, iL_orK (szS s) (by omega) h0 (by omega) (by omega)]
    rw [Int.one_mul, Int.add_comm]
set_option maxRecDepth 10000 in
def rdV (s : Nat) (fo m t : Int) (b : Nat) (ng : Int32) : Int := if fo = 0 then (2 ^ szK s - 1) * 2 ^ (szD s - 1) + 2 ^ (szD s - 2) else (if fo = 1 then (2 ^ szK s - 1) * 2 ^ (szD s - 1) else roV s m t b) + (if ng = 0 then 0 else 2 ^ szS s)
set_option maxRecDepth 10000 in
theorem rdr_spec {s : Nat} (hs : s < 2) {fo m t : Int} (hf0 : 0 ≤ fo) (hf1 : fo ≤ 2) (h0 : 0 ≤ m) (h1 : m < 4611686018427387904) (ht0 : -1100000000 ≤ t) (ht1 : t ≤ 1100000000) (ng : Int32) : ∃ b, isBL m b ∧ f_Rd_rounded s (iI fo) (iL m) (iI t) ng = some (iL (rdV s fo m t b ng)) := by
  obtain ⟨i1, _, i3⟩ := szinf hs
  obtain ⟨b, hb64, hb, hnl⟩ := nlzL_spec h0 (show m < 18446744073709551616 by omega)
  refine ⟨b, hb, ?_⟩
  unfold f_Rd_rounded rdV
  rw [i1, i3, sro_spec hs h0 h1 ht0 ht1 hb hb64 hnl, Option.bind_some, Option.bind_some, Option.bind_some, if_pos hs, if_pos hs, if_pos hs]
  by_cases q0 : fo = 0
  · subst q0
    rw [if_pos (show iI 0 = 0 from rfl), if_pos rfl]
  · rw [if_neg (show ¬ iI fo = 0 from by simp (disch := omega) only [iI_lit, iL_lit, iI_add, iI_sub, iI_mul, iI_neg, iL_add, iL_sub, iL_mul, iL_neg, iI_lt, iI_le, iI_eq, iL_lt, iL_le, iL_eqS, iI_c, iI_ok, iI_l, iL_i, iI_low, l_ushrI, l_shlI, l_shrI, i_shlI, i_shrI, i_ushrI, iI_div, iL_div, Int.toNat_natCast, Int.reduceToNat, iI_ofNat]; omega), if_neg q0]
    by_cases q1 : fo = 1
    · subst q1
      rw [if_pos (show iI 1 = 1 from rfl), if_pos rfl]
      exact rd39 hs (by have := (inf_b hs).1; omega) (Int.le_refl _) _ _ _ _
    · rw [if_neg (show ¬ iI fo = 1 from by simp (disch := omega) only [iI_lit, iL_lit, iI_add, iI_sub, iI_mul, iI_neg, iL_add, iL_sub, iL_mul, iL_neg, iI_lt, iI_le, iI_eq, iL_lt, iL_le, iL_eqS, iI_c, iI_ok, iI_l, iL_i, iI_low, l_ushrI, l_shlI, l_shrI, i_shlI, i_shrI, i_ushrI, iI_div, iL_div, Int.toNat_natCast, Int.reduceToNat, iI_ofNat]; omega), if_neg q1]
      have := roV_b hs h0 (t := t) (b := b)
      exact rd39 hs this.1 this.2 _ _ _ _
-- ZM
set_option maxRecDepth 10000 in
def valS (s : Nat) (z : Int) : Int := mC s z * 2 ^ (mQ s z - szL s).toNat
set_option maxRecDepth 10000 in
theorem dm_uniq {P x f : Int} (h0 : 0 ≤ f) (h1 : f < P) : (P * x + f) / P = x ∧ (P * x + f) % P = f := by
  have hP : 0 < P := by omega
  constructor
  · rw [Int.add_comm, Int.add_mul_ediv_left _ _ (by omega), Int.ediv_eq_zero_of_lt h0 h1, Int.zero_add]
  · rw [Int.add_comm, Int.add_mul_emod_self_left, Int.emod_eq_of_lt h0 h1]
set_option maxRecDepth 10000 in
theorem valS_at {s : Nat} {x f : Int} (hx : 0 ≤ x) (h0 : 0 ≤ f) (h1 : f < 2 ^ (szD s - 1)) : valS s (2 ^ (szD s - 1) * x + f) = if x = 0 then f else (f + 2 ^ (szD s - 1)) * 2 ^ (x - 1).toNat := by
  have hP := p2_pos (szD s - 1)
  obtain ⟨d1, d2⟩ := dm_uniq (x := x) h0 h1
  unfold valS mC mQ
  rw [d1, d2]
  by_cases q : x = 0
  · subst q
    rw [Int.mul_zero, Int.zero_add, if_pos h1, if_pos rfl, if_pos rfl, Int.sub_self]
    simp
  · have hge : 2 ^ (szD s - 1) * 1 ≤ 2 ^ (szD s - 1) * x := Int.mul_le_mul_of_nonneg_left (by omega) (by omega)
    rw [if_neg (by omega), if_neg q, if_neg q]
    rw [show szL s + x - 1 - szL s = x - 1 by omega]
set_option maxRecDepth 10000 in
theorem mQ_at {s : Nat} {x f : Int} (h0 : 0 ≤ f) (h1 : f < 2 ^ (szD s - 1)) : (mQ s (2 ^ (szD s - 1) * x + f) - szL s).toNat = (x - 1).toNat ∨ x = 0 ∧ (mQ s (2 ^ (szD s - 1) * x + f) - szL s).toNat = 0 := by
  obtain ⟨d1, d2⟩ := dm_uniq (x := x) h0 h1
  unfold mQ
  rw [d1]
  by_cases q : x = 0
  · right; rw [if_pos q]; exact ⟨q, by omega⟩
  · left; rw [if_neg q]; omega
set_option maxRecDepth 10000 in
theorem valS_succ {s : Nat} (hs : s < 2) {z : Int} (hz : 0 ≤ z) : valS s (z + 1) = valS s z + 2 ^ (mQ s z - szL s).toNat := by
  have hP := p2_pos (szD s - 1)
  have hP1 := (sz_p hs).2.1
  have hf0 : 0 ≤ z % 2 ^ (szD s - 1) := Int.emod_nonneg _ (by omega)
  have hf1 : z % 2 ^ (szD s - 1) < 2 ^ (szD s - 1) := Int.emod_lt_of_pos _ hP
  have hx0 : 0 ≤ z / 2 ^ (szD s - 1) := Int.ediv_nonneg hz (by omega)
  have hz' : z = 2 ^ (szD s - 1) * (z / 2 ^ (szD s - 1)) + z % 2 ^ (szD s - 1) := (Int.mul_ediv_add_emod z _).symm
  generalize z / 2 ^ (szD s - 1) = x at *
  generalize z % 2 ^ (szD s - 1) = f at *
  subst hz'
  have hq := mQ_at (s := s) (x := x) hf0 hf1
  by_cases w : f + 1 < 2 ^ (szD s - 1)
  · rw [Int.add_assoc, valS_at hx0 (by omega) w, valS_at hx0 hf0 hf1]
    by_cases q : x = 0
    · rcases hq with h | ⟨_, h⟩
      · rw [h, if_pos q, if_pos q, q]; rfl
      · rw [h, if_pos q, if_pos q]; rfl
    · rcases hq with h | ⟨h, _⟩
      · rw [h, if_neg q, if_neg q]
        rw [show f + 1 + 2 ^ (szD s - 1) = f + 2 ^ (szD s - 1) + 1 by omega, Int.add_mul _ 1, Int.one_mul]
      · exact absurd h q
  · have hfe : f = 2 ^ (szD s - 1) - 1 := by omega
    have e : 2 ^ (szD s - 1) * x + f + 1 = 2 ^ (szD s - 1) * (x + 1) + 0 := by
      rw [Int.mul_add, Int.mul_one]; omega
    rw [e, valS_at (by omega) (Int.le_refl _) hP, valS_at hx0 hf0 hf1, if_neg (by omega)]
    by_cases q : x = 0
    · subst q
      rcases hq with h | ⟨_, h⟩
      · rw [h, if_pos rfl, hfe]
        simp
      · rw [h, if_pos rfl, hfe]
        simp
    · rcases hq with h | ⟨h, _⟩
      · rw [h, if_neg q, hfe]
        have e2 : (x + 1 - 1).toNat = (x - 1).toNat + 1 := by omega
        rw [e2, Int.pow_succ]
        generalize (2 : Int) ^ (x - 1).toNat = y
        generalize (2 : Int) ^ (szD s - 1) = P
        grind
      · exact absurd h q
-- ZN
set_option maxRecDepth 10000 in
theorem valS_step {s : Nat} (hs : s < 2) {z : Int} (hz : 0 ≤ z) : valS s z < valS s (z + 1) := by
  have := p2_pos (mQ s z - szL s).toNat
  rw [valS_succ hs hz]
  omega
set_option maxRecDepth 10000 in
theorem valS_monoN {s : Nat} (hs : s < 2) {z : Int} (hz : 0 ≤ z) : ∀ d : Nat, valS s z ≤ valS s (z + d)
  | 0 => by rw [show z + ((0 : Nat) : Int) = z by omega]; exact Int.le_refl _
  | d + 1 => by
    have h1 := valS_monoN hs hz d
    have h2 := valS_step hs (z := z + d) (by omega)
    rw [show z + ((d + 1 : Nat) : Int) = z + d + 1 by omega]
    omega
set_option maxRecDepth 10000 in
theorem valS_mono {s : Nat} (hs : s < 2) {a b : Int} (ha : 0 ≤ a) (hab : a ≤ b) : valS s a ≤ valS s b := by
  have := valS_monoN hs ha (b - a).toNat
  rwa [show a + ((b - a).toNat : Int) = b by omega] at this
set_option maxRecDepth 10000 in
def NE (s : Nat) (V W r : Int) : Prop := ∃ a, 0 ≤ a ∧ a < (2 ^ szK s - 1) * 2 ^ (szD s - 1) ∧ valS s a * W ≤ V ∧ (a + 1 < (2 ^ szK s - 1) * 2 ^ (szD s - 1) → V < valS s (a + 1) * W) ∧
  r = if 2 * V < (valS s a + valS s (a + 1)) * W ∨ (2 * V = (valS s a + valS s (a + 1)) * W ∧ a % 2 = 0) then a else a + 1
set_option maxRecDepth 10000 in
theorem NE_lt {s : Nat} (hs : s < 2) {V W a b : Int} (hW : 0 < W) (ha : 0 ≤ a) (h1 : V < valS s (a + 1) * W) (h2 : valS s b * W ≤ V) : b ≤ a := by
  rcases Int.lt_or_le a b with h | h
  · have := Int.mul_le_mul_of_nonneg_right (valS_mono hs (show 0 ≤ a + 1 by omega) (show a + 1 ≤ b by omega)) (show 0 ≤ W by omega)
    omega
  · exact h
set_option maxRecDepth 10000 in
theorem NE_uniq {s : Nat} (hs : s < 2) {V W r r' : Int} (hW : 0 < W) (h : NE s V W r) (h' : NE s V W r') : r = r' := by
  obtain ⟨a, a0, a1, a2, a3, a4⟩ := h
  obtain ⟨b, b0, b1, b2, b3, b4⟩ := h'
  have hab : a = b := by
    rcases Int.lt_trichotomy a b with q | q | q
    · have := NE_lt hs hW a0 (a3 (by omega)) b2
      omega
    · exact q
    · have := NE_lt hs hW b0 (b3 (by omega)) a2
      omega
  subst hab
  rw [a4, b4]
-- ZO
set_option maxRecDepth 10000 in
theorem szD_2 {s : Nat} (hs : s < 2) : (2 : Int) ^ szD s = 2 * 2 ^ (szD s - 1) := by
  have := (sz_p hs).2.2.2.1
  have e : szD s = (szD s - 1) + 1 := by omega
  rw [e, Int.pow_succ, Nat.add_sub_cancel]
  omega
set_option maxRecDepth 10000 in
theorem r92_val {s : Nat} (hs : s < 2) {q c : Int} (hq0 : szL s ≤ q) (hq1 : q ≤ szG s) (hc0 : 0 ≤ c) (hc1 : c < 2 ^ szD s) (hn : 2 ^ (szD s - 1) ≤ c ∨ q = szL s) : valS s (r92 s q c) = c * 2 ^ (q - szL s).toNat := by
  have hP := p2_pos (szD s - 1)
  have h2 := szD_2 hs
  unfold r92
  rw [if_pos hq1]
  by_cases r : c < 2 ^ (szD s - 1)
  · have hq : q = szL s := by rcases hn with h | h <;> omega
    rw [if_pos r, hq, Int.sub_self]
    have := valS_at (s := s) (x := 0) (Int.le_refl _) hc0 r
    rw [Int.mul_zero, Int.zero_add, if_pos rfl] at this
    rw [this]
    simp
  · have hm : c % 2 ^ (szD s - 1) = c - 2 ^ (szD s - 1) := by
      have := (dm_uniq (P := 2 ^ (szD s - 1)) (x := 1) (f := c - 2 ^ (szD s - 1)) (by omega) (by omega)).2
      rwa [Int.mul_one, show (2 : Int) ^ (szD s - 1) + (c - 2 ^ (szD s - 1)) = c by omega] at this
    rw [if_neg r, hm, Int.mul_comm, valS_at (by omega) (by omega) (by omega), if_neg (by omega)]
    rw [show c - 2 ^ (szD s - 1) + 2 ^ (szD s - 1) = c by omega, show q - szL s + 1 - 1 = q - szL s by omega]
set_option maxRecDepth 10000 in
theorem r69_val {s : Nat} (hs : s < 2) {q c : Int} (hq0 : szL s ≤ q) (hq1 : q < szG s) (hc0 : 0 ≤ c) (hc1 : c ≤ 2 ^ szD s) (hn : 2 ^ (szD s - 1) ≤ c ∨ q = szL s) : valS s (r69 s q c) = c * 2 ^ (q - szL s).toNat := by
  have h2 := szD_2 hs
  have hP := p2_pos (szD s - 1)
  unfold r69
  by_cases w : c < 2 ^ szD s
  · rw [if_pos w]
    exact r92_val hs hq0 (by omega) hc0 w hn
  · have hc : c = 2 * 2 ^ (szD s - 1) := by omega
    have hh : c / 2 = 2 ^ (szD s - 1) := by omega
    rw [if_neg w, hh, r92_val hs (by omega) (by omega) (by omega) (by omega) (Or.inl (Int.le_refl _)), hc]
    rw [show (q + 1 - szL s).toNat = (q - szL s).toNat + 1 by omega, Int.pow_succ]
    generalize (2 : Int) ^ (szD s - 1) = P
    generalize (2 : Int) ^ (q - szL s).toNat = y
    grind
-- ZP
set_option maxRecDepth 10000 in
theorem szG_K {s : Nat} (hs : s < 2) : (2 : Int) ^ szK s - 1 = szG s - szL s + 2 ∧ 0 ≤ szG s - szL s := by
  rcases sz_cases hs with h | h
  · obtain ⟨_, _, h2, h3, _, h5⟩ := h; rw [h2, h3, h5]; decide
  · obtain ⟨_, _, h2, h3, _, h5⟩ := h; rw [h2, h3, h5]; decide
set_option maxRecDepth 10000 in
theorem inf_val {s : Nat} (hs : s < 2) : valS s ((2 ^ szK s - 1) * 2 ^ (szD s - 1)) = 2 ^ (szD s - 1) * 2 ^ (szG s + 1 - szL s).toNat := by
  obtain ⟨e, h0⟩ := szG_K hs
  have := valS_at (s := s) (x := szG s - szL s + 2) (by omega) (Int.le_refl 0) (p2_pos _)
  rw [Int.add_zero, if_neg (by omega), Int.zero_add] at this
  rw [e, Int.mul_comm, this, show szG s - szL s + 2 - 1 = szG s + 1 - szL s by omega]
set_option maxRecDepth 10000 in
theorem r69_val2 {s : Nat} (hs : s < 2) {q c : Int} (hq0 : szL s ≤ q) (hq1 : q ≤ szG s) (hc0 : 0 ≤ c) (hc1 : c ≤ 2 ^ szD s) (hn : 2 ^ (szD s - 1) ≤ c ∨ q = szL s) : valS s (r69 s q c) = c * 2 ^ (q - szL s).toNat := by
  by_cases r : q < szG s
  · exact r69_val hs hq0 r hc0 hc1 hn
  · have hq : q = szG s := by omega
    have h2 := szD_2 hs
    unfold r69
    by_cases w : c < 2 ^ szD s
    · rw [if_pos w]
      exact r92_val hs hq0 hq1 hc0 w hn
    · have hc : c = 2 * 2 ^ (szD s - 1) := by omega
      rw [if_neg w]
      unfold r92
      rw [if_neg (by omega), inf_val hs, hc, hq]
      rw [show (szG s + 1 - szL s).toNat = (szG s - szL s).toNat + 1 by omega, Int.pow_succ]
      generalize (2 : Int) ^ (szD s - 1) = P
      generalize (2 : Int) ^ (szG s - szL s).toNat = y
      grind
set_option maxRecDepth 10000 in
theorem r_succ {s : Nat} (hs : s < 2) {q c : Int} (hq0 : szL s ≤ q) (hq1 : q ≤ szG s) (hc0 : 0 ≤ c) (hc1 : c < 2 ^ szD s) (hn : 2 ^ (szD s - 1) ≤ c ∨ q = szL s) : r69 s q (c + 1) = r92 s q c + 1 := by
  have hP := p2_pos (szD s - 1)
  have h2 := szD_2 hs
  obtain ⟨eK, _⟩ := szG_K hs
  have hm : ∀ c : Int, 2 ^ (szD s - 1) ≤ c → c < 2 * 2 ^ (szD s - 1) → c % 2 ^ (szD s - 1) = c - 2 ^ (szD s - 1) := by
    intro c h1 h3
    have := (dm_uniq (P := 2 ^ (szD s - 1)) (x := 1) (f := c - 2 ^ (szD s - 1)) (by omega) (by omega)).2
    rwa [Int.mul_one, show (2 : Int) ^ (szD s - 1) + (c - 2 ^ (szD s - 1)) = c by omega] at this
  unfold r69
  rw [h2] at hc1 ⊢
  by_cases w : c + 1 < 2 * 2 ^ (szD s - 1)
  · rw [if_pos w]
    unfold r92
    rw [if_pos hq1, if_pos hq1]
    by_cases r : c < 2 ^ (szD s - 1)
    · have hq : q = szL s := by rcases hn with h | h <;> omega
      rw [if_pos r]
      by_cases v : c + 1 < 2 ^ (szD s - 1)
      · rw [if_pos v]
      · rw [if_neg v, hm _ (by omega) w, hq, Int.sub_self, Int.zero_add, Int.one_mul]
        omega
    · rw [if_neg r, if_neg (by omega), hm _ (by omega) w, hm _ (by omega) (by omega)]
      omega
  · rw [if_neg w]
    have hh : (c + 1) / 2 = 2 ^ (szD s - 1) := by omega
    rw [hh]
    unfold r92
    rw [if_pos hq1, if_neg (show ¬ c < 2 ^ (szD s - 1) by omega), hm c (by omega) (by omega), if_neg (show ¬ (2 : Int) ^ (szD s - 1) < 2 ^ (szD s - 1) by omega), Int.emod_self]
    have hc : c = 2 * 2 ^ (szD s - 1) - 1 := by omega
    rw [hc]
    by_cases v : q + 1 ≤ szG s
    · rw [if_pos v]
      generalize (2 : Int) ^ (szD s - 1) = P
      rw [show q + 1 - szL s + 1 = (q - szL s + 1) + 1 by omega, Int.add_mul _ 1, Int.one_mul]
      omega
    · rw [if_neg v, eK, show szG s - szL s + 2 = (q - szL s + 1) + 1 by omega, Int.add_mul _ 1, Int.one_mul]
      omega
-- ZQ
set_option maxRecDepth 10000 in
theorem par92 {s : Nat} (hs : s < 2) {q c : Int} (hq1 : q ≤ szG s) (hc0 : 0 ≤ c) (hc1 : c < 2 ^ szD s) : r92 s q c % 2 = c % 2 := by
  have hP := p2_pos (szD s - 1)
  have h2 := szD_2 hs
  obtain ⟨H, hH⟩ : ∃ H : Int, (2 : Int) ^ (szD s - 1) = 2 * H := by
    have : szD s - 1 = (szD s - 2) + 1 := by
      rcases sz_cases hs with h | h
      · obtain ⟨_, h1, _⟩ := h; omega
      · obtain ⟨_, h1, _⟩ := h; omega
    exact ⟨2 ^ (szD s - 2), by rw [this, Int.pow_succ, Int.mul_comm]⟩
  unfold r92
  rw [if_pos hq1]
  by_cases r : c < 2 ^ (szD s - 1)
  · rw [if_pos r]
  · have hm : c % 2 ^ (szD s - 1) = c - 2 ^ (szD s - 1) := by
      have := (dm_uniq (P := 2 ^ (szD s - 1)) (x := 1) (f := c - 2 ^ (szD s - 1)) (by omega) (by omega)).2
      rwa [Int.mul_one, show (2 : Int) ^ (szD s - 1) + (c - 2 ^ (szD s - 1)) = c by omega] at this
    rw [if_neg r, hm, hH, show (q - szL s + 1) * (2 * H) = 2 * ((q - szL s + 1) * H) by grind]
    omega
set_option maxRecDepth 10000 in
theorem NE_of {s : Nat} (hs : s < 2) {V W q c U : Int} (hW : 0 < W) (hU : U = 2 ^ (q - szL s).toNat) (hq0 : szL s ≤ q) (hq1 : q ≤ szG s) (hc0 : 0 ≤ c) (hc1 : c < 2 ^ szD s) (hn : 2 ^ (szD s - 1) ≤ c ∨ q = szL s) (hV0 : c * U * W ≤ V) (hV1 : V < (c + 1) * U * W) :
    NE s V W (r69 s q (c + (if (2 * c + 1) * U * W < 2 * V ∨ (2 * V = (2 * c + 1) * U * W ∧ c % 2 = 1) then 1 else 0))) := by
  have hv0 := r92_val hs hq0 hq1 hc0 hc1 hn
  have hsu := r_succ hs hq0 hq1 hc0 hc1 hn
  have hv1 := r69_val2 hs hq0 hq1 (c := c + 1) (by omega) (by omega) (by rcases hn with h | h; exact Or.inl (by omega); exact Or.inr h)
  have hb := r92_b hs hq0 hc0
  have hb1 := r69_b hs (q := q) (c := c + 1) hq0 (by omega)
  have hp := par92 hs hq1 hc0 hc1
  rw [hsu] at hv1 hb1
  rw [← hU] at hv0 hv1
  have hmid : (valS s (r92 s q c) + valS s (r92 s q c + 1)) * W = (2 * c + 1) * U * W := by rw [hv0, hv1]; grind
  refine ⟨r92 s q c, hb.1, by omega, by rw [hv0]; exact hV0, fun _ => by rw [hv1]; exact hV1, ?_⟩
  rw [hmid, hp]
  generalize (2 * c + 1) * U * W = M at *
  by_cases w : M < 2 * V ∨ (2 * V = M ∧ c % 2 = 1)
  · rw [if_pos w, hsu, if_neg (by omega)]
  · rw [if_neg w, Int.add_zero, if_pos (by omega)]
    unfold r69
    rw [if_pos hc1]
-- ZR
set_option maxRecDepth 10000 in
def STK (m X Y : Int) : Prop := X = m * Y ∨ (m % 2 = 1 ∧ (m - 1) * Y < X ∧ X < (m + 1) * Y)
set_option maxRecDepth 10000 in
theorem neV_of {m X Y : Int} {d : Nat} (h0 : 0 ≤ m) (hY : 0 < Y) (hd : 1 ≤ d) (h : STK m X Y) (hd2 : X = m * Y ∨ 2 ≤ d) :
    m / 2 ^ d * 2 ^ d * Y ≤ X ∧ X < (m / 2 ^ d + 1) * 2 ^ d * Y ∧ neV m d = m / 2 ^ d + (if (2 * (m / 2 ^ d) + 1) * 2 ^ d * Y < 2 * X ∨ (2 * X = (2 * (m / 2 ^ d) + 1) * 2 ^ d * Y ∧ m / 2 ^ d % 2 = 1) then 1 else 0) := by
  have hp := p2_pos d
  have hr0 : 0 ≤ m % 2 ^ d := Int.emod_nonneg _ (by omega)
  have hr1 : m % 2 ^ d < 2 ^ d := Int.emod_lt_of_pos _ hp
  have hm := Int.mul_ediv_add_emod m (2 ^ d)
  have hD : (2 : Int) ^ d = 2 * 2 ^ (d - 1) := by
    have : d = (d - 1) + 1 := by omega
    rw [this, Int.pow_succ, Nat.add_sub_cancel]
    omega
  have hev : 2 ≤ d → ∃ k : Int, (2 : Int) ^ (d - 1) = 2 * k := by
    intro h2
    have : d - 1 = (d - 2) + 1 := by omega
    exact ⟨2 ^ (d - 2), by rw [this, Int.pow_succ, Int.mul_comm]⟩
  unfold neV
  generalize m / 2 ^ d = c at *
  generalize m % 2 ^ d = r at *
  generalize (2 : Int) ^ d = D at *
  generalize (2 : Int) ^ (d - 1) = k at *
  subst hD
  obtain ⟨A, hA⟩ : ∃ A, A = c * (2 * k) * Y := ⟨_, rfl⟩
  obtain ⟨B, hB⟩ : ∃ B, B = k * Y := ⟨_, rfl⟩
  obtain ⟨R, hR⟩ : ∃ R, R = r * Y := ⟨_, rfl⟩
  have e1 : m * Y = A + R := by rw [hA, hR, ← hm]; grind
  have e2 : (m - 1) * Y = A + R - Y := by rw [Int.sub_mul, e1, Int.one_mul]
  have e3 : (m + 1) * Y = A + R + Y := by rw [Int.add_mul, e1, Int.one_mul]
  have e4 : (c + 1) * (2 * k) * Y = A + 2 * B := by rw [hA, hB]; grind
  have e5 : (2 * c + 1) * (2 * k) * Y = 2 * A + 2 * B := by rw [hA, hB]; grind
  have c0 : 0 ≤ R := by rw [hR]; exact Int.mul_nonneg hr0 (by omega)
  have c1 : R + Y ≤ 2 * B := by
    have := Int.mul_le_mul_of_nonneg_right (show r + 1 ≤ 2 * k by omega) (show 0 ≤ Y by omega)
    rw [Int.add_mul, Int.one_mul] at this
    rw [hR, hB]
    grind
  have c2 : r < k → R + Y ≤ B := by
    intro q
    have := Int.mul_le_mul_of_nonneg_right (show r + 1 ≤ k by omega) (show 0 ≤ Y by omega)
    rw [Int.add_mul, Int.one_mul] at this
    omega
  have c3 : k < r → B + Y ≤ R := by
    intro q
    have := Int.mul_le_mul_of_nonneg_right (show k + 1 ≤ r by omega) (show 0 ≤ Y by omega)
    rw [Int.add_mul, Int.one_mul] at this
    omega
  have c4 : r = k → R = B := by intro q; rw [hR, hB, q]
  have c5 : 1 ≤ r → Y ≤ R := by
    intro q
    have := Int.mul_le_mul_of_nonneg_right q (show 0 ≤ Y by omega)
    rw [Int.one_mul] at this
    omega
  have hpar : m % 2 = r % 2 := by
    rw [← hm, show 2 * k * c + r = 2 * (k * c) + r by grind]
    omega
  unfold STK at h
  rw [← hA, e4, e5]
  rw [e1, e2, e3] at h
  rw [e1] at hd2
  have hodd : ¬ X = A + R → r ≠ k ∧ 1 ≤ r := by
    intro q
    have hm1 : m % 2 = 1 := by rcases h with h | h; exact absurd h q; exact h.1
    obtain ⟨j, hj⟩ := hev (by rcases hd2 with h | h; exact absurd h q; exact h)
    omega
  clear hev hm hA hB hR e1 e2 e3 e4 e5 hpar
  have hlo : A ≤ X ∧ X < A + 2 * B := by
    by_cases q : X = A + R
    · omega
    · have := hodd q
      have := c5 this.2
      omega
  refine ⟨hlo.1, hlo.2, ?_⟩
  congr 1
  apply if_iff
  by_cases q : X = A + R
  · rcases Int.lt_trichotomy r k with w | w | w
    · have := c2 w; omega
    · have := c4 w; omega
    · have := c3 w; omega
  · obtain ⟨o1, o2⟩ := hodd q
    rcases Int.lt_trichotomy r k with w | w | w
    · have := c2 w; omega
    · exact absurd w o1
    · have := c3 w; omega
-- ZS
set_option maxRecDepth 10000 in
theorem NE_scale {s : Nat} {V W k r : Int} (hk : 0 < k) : NE s (V * k) (W * k) r ↔ NE s V W r := by
  unfold NE
  have l1 : ∀ x : Int, (x * (W * k) ≤ V * k) = (x * W ≤ V) := by
    intro x
    rw [← Int.mul_assoc]
    exact propext ⟨fun h => Int.le_of_mul_le_mul_right h hk, fun h => Int.mul_le_mul_of_nonneg_right h (by omega)⟩
  have l2 : ∀ x : Int, (V * k < x * (W * k)) = (V < x * W) := by
    intro x
    rw [← Int.mul_assoc]
    exact propext ⟨fun h => Int.lt_of_mul_lt_mul_right h (by omega), fun h => Int.mul_lt_mul_of_pos_right h hk⟩
  have l3 : ∀ x : Int, (2 * (V * k) < x * (W * k)) = (2 * V < x * W) := by
    intro x
    rw [← Int.mul_assoc, ← Int.mul_assoc]
    exact propext ⟨fun h => Int.lt_of_mul_lt_mul_right h (by omega), fun h => Int.mul_lt_mul_of_pos_right h hk⟩
  have l4 : ∀ x : Int, (2 * (V * k) = x * (W * k)) = (2 * V = x * W) := by
    intro x
    rw [← Int.mul_assoc, ← Int.mul_assoc]
    exact propext ⟨fun h => Int.eq_of_mul_eq_mul_right (by omega) h, fun h => by rw [h]⟩
  simp only [l1, l2, l3, l4]
-- ZT
set_option maxRecDepth 10000 in
theorem NE_sticky {s : Nat} (hs : s < 2) {m X Y q U : Int} {d : Nat} (h0 : 0 ≤ m) (hY : 0 < Y) (hd : 1 ≤ d) (h : STK m X Y) (hd2 : X = m * Y ∨ 2 ≤ d) (hU : U = 2 ^ (q - szL s).toNat) (hq0 : szL s ≤ q) (hq1 : q ≤ szG s) (hc1 : m / 2 ^ d < 2 ^ szD s) (hn : 2 ^ (szD s - 1) ≤ m / 2 ^ d ∨ q = szL s) :
    NE s (X * U) (Y * 2 ^ d) (r69 s q (neV m d)) := by
  have hp := p2_pos d
  have hUp : 0 < U := by rw [hU]; exact p2_pos _
  obtain ⟨a1, a2, a3⟩ := neV_of h0 hY hd h hd2
  have hc0 : 0 ≤ m / 2 ^ d := Int.ediv_nonneg h0 (by omega)
  have hW : 0 < Y * 2 ^ d := Int.mul_pos hY hp
  rw [a3]
  generalize m / 2 ^ d = c at *
  generalize (2 : Int) ^ d = D at *
  have b0 : c * U * (Y * D) = c * D * Y * U := by grind
  have b1 : (c + 1) * U * (Y * D) = (c + 1) * D * Y * U := by grind
  have b2 : (2 * c + 1) * U * (Y * D) = (2 * c + 1) * D * Y * U := by grind
  have key := NE_of hs (V := X * U) (W := Y * D) (c := c) hW hU hq0 hq1 hc0 hc1 hn (by rw [b0]; exact Int.mul_le_mul_of_nonneg_right a1 (by omega)) (by rw [b1]; exact Int.mul_lt_mul_of_pos_right a2 hUp)
  rw [b2, show 2 * (X * U) = 2 * X * U by grind] at key
  generalize (2 * c + 1) * D * Y = M at *
  have e1 : (M * U < 2 * X * U) = (M < 2 * X) := propext ⟨fun h => Int.lt_of_mul_lt_mul_right h (by omega), fun h => Int.mul_lt_mul_of_pos_right h hUp⟩
  have e2 : (2 * X * U = M * U) = (2 * X = M) := propext ⟨fun h => Int.eq_of_mul_eq_mul_right (by omega) h, fun h => by rw [h]⟩
  simp only [e1, e2] at key
  exact key
-- ZU
set_option maxRecDepth 10000 in
theorem bl_div {m : Int} {b d D : Nat} (hb : isBL m b) (hd : b ≤ d + D) : m / 2 ^ d < 2 ^ D := by
  apply Int.ediv_lt_of_lt_mul (p2_pos d)
  rw [← Int.pow_add]
  have h1 := hb.1
  have h2 : (2 : Int) ^ b ≤ 2 ^ (D + d) := p2_mono (by omega)
  omega
set_option maxRecDepth 10000 in
theorem bl_div2 {m : Int} {b d D : Nat} (hb : isBL m b) (hd : b = d + D) (hD : 1 ≤ D) : 2 ^ (D - 1) ≤ m / 2 ^ d := by
  apply Int.le_ediv_of_mul_le (p2_pos d)
  rw [← Int.pow_add]
  have h1 := hb.2 (by omega)
  rw [show b - 1 = D - 1 + d by omega] at h1
  exact h1
set_option maxRecDepth 10000 in
theorem roV_NE {s : Nat} (hs : s < 2) {m t X Y q : Int} {b : Nat} (h0 : 0 < m) (hY : 0 < Y) (h : STK m X Y) (hb : isBL m b) (hq : q = max (t + b - szD s) (szL s)) (hd0 : 1 ≤ q - t) (hd1 : q - t ≤ 62) (hd2 : X = m * Y ∨ 2 ≤ q - t) (hq1 : q ≤ szG s) :
    NE s (X * 2 ^ (q - szL s).toNat) (Y * 2 ^ (q - t).toNat) (roV s m t b) := by
  have hDp := (sz_p hs).2.2.2.1
  unfold roV
  rw [← hq, if_neg (by omega), if_neg (by omega), if_neg (by omega)]
  refine NE_sticky hs (by omega) hY (by omega) h ?_ rfl (by omega) hq1 (bl_div hb (by omega)) ?_
  · rcases hd2 with r | r
    · exact Or.inl r
    · exact Or.inr (by omega)
  · by_cases r : q = szL s
    · exact Or.inr r
    · exact Or.inl (bl_div2 hb (by omega) (by omega))
-- ZV
set_option maxRecDepth 10000 in
theorem NE_exact {s : Nat} (hs : s < 2) {W a : Int} (hW : 0 < W) (h0 : 0 ≤ a) (h1 : a < (2 ^ szK s - 1) * 2 ^ (szD s - 1)) : NE s (valS s a * W) W a := by
  have hm := Int.mul_lt_mul_of_pos_right (valS_step hs h0) hW
  refine ⟨a, h0, h1, Int.le_refl _, fun _ => hm, ?_⟩
  rw [Int.add_mul, if_pos (Or.inl (by omega))]
set_option maxRecDepth 10000 in
theorem NE_inf {s : Nat} (hs : s < 2) {V W : Int} (hW : 0 < W) (h : valS s ((2 ^ szK s - 1) * 2 ^ (szD s - 1)) * W ≤ V) : NE s V W ((2 ^ szK s - 1) * 2 ^ (szD s - 1)) := by
  have ib := (inf_b hs).1
  have hst := valS_step hs (z := (2 ^ szK s - 1) * 2 ^ (szD s - 1) - 1) (by omega)
  unfold NE
  generalize ((2 : Int) ^ szK s - 1) * 2 ^ (szD s - 1) = I at *
  have hm := Int.mul_lt_mul_of_pos_right hst hW
  have e : I - 1 + 1 = I := by omega
  rw [e] at hm
  refine ⟨I - 1, by omega, by omega, ?_, fun q => absurd q (by omega), ?_⟩
  · omega
  · rw [e, Int.add_mul]
    rw [if_neg (by omega)]
set_option maxRecDepth 10000 in
theorem NE_zero {s : Nat} (hs : s < 2) {V W : Int} (hW : 0 < W) (h0 : 0 ≤ V) (h : 2 * V < W) : NE s V W 0 := by
  have ib := (inf_b hs).1
  have v0 : valS s 0 = 0 := by
    have := valS_at (s := s) (x := 0) (f := 0) (Int.le_refl _) (Int.le_refl _) (p2_pos _)
    rwa [Int.mul_zero, Int.zero_add, if_pos rfl] at this
  have v1 := valS_step hs (z := 0) (Int.le_refl _)
  rw [v0] at v1
  have hm := Int.mul_le_mul_of_nonneg_right (show 1 ≤ valS s (0 + 1) by omega) (show 0 ≤ W by omega)
  rw [Int.one_mul] at hm
  refine ⟨0, Int.le_refl _, ib, by rw [v0]; omega, fun _ => by omega, ?_⟩
  rw [v0, Int.zero_add, if_pos (Or.inl (by omega))]
-- ZW
set_option maxRecDepth 10000 in
theorem NE_cross {s : Nat} {V W V' W' r : Int} (hW : 0 < W) (hW' : 0 < W') (h : V * W' = V' * W) (g : NE s V W r) : NE s V' W' r := by
  have a := (NE_scale hW').mpr g
  rw [h, Int.mul_comm W W'] at a
  exact (NE_scale hW).mp a
set_option maxRecDepth 10000 in
theorem r69_inf {s : Nat} {q c : Int} (h : szG s < q) : r69 s q c = (2 ^ szK s - 1) * 2 ^ (szD s - 1) := by
  unfold r69 r92
  rw [if_neg (show ¬ q ≤ szG s by omega), if_neg (show ¬ q + 1 ≤ szG s by omega)]
  split <;> rfl
set_option maxRecDepth 10000 in
theorem szGL {s : Nat} (hs : s < 2) : szL s < szG s ∧ szL s + 2 * szD s < 0 ∧ (szD s : Int) < 62 ∧ 2 ≤ szD s := by
  rcases sz_cases hs with h | h
  · obtain ⟨_, h1, h2, h3, _⟩ := h; rw [h1, h2, h3]; decide
  · obtain ⟨_, h1, h2, h3, _⟩ := h; rw [h1, h2, h3]; decide
set_option maxRecDepth 10000 in
theorem STK_b {m X Y : Int} {b : Nat} (h0 : 0 < m) (hY : 0 < Y) (h : STK m X Y) (hb : isBL m b) (hx : X = m * Y ∨ 2 ≤ b) : X < 2 ^ b * Y ∧ 2 ^ (b - 1) * Y ≤ X ∧ 0 < b := by
  have hb0 : 0 < b := by
    rcases Nat.eq_zero_or_pos b with r | r
    · have := hb.1
      rw [r] at this
      simp at this
      omega
    · exact r
  have b1 := hb.1
  have b2 := hb.2 hb0
  refine ⟨?_, ?_, hb0⟩
  · rcases h with r | ⟨_, _, r⟩
    · rw [r]; exact Int.mul_lt_mul_of_pos_right b1 hY
    · have := Int.mul_le_mul_of_nonneg_right (show m + 1 ≤ 2 ^ b by omega) (show 0 ≤ Y by omega)
      omega
  · by_cases r : X = m * Y
    · rw [r]; exact Int.mul_le_mul_of_nonneg_right b2 (by omega)
    · rcases h with r' | ⟨r1, r2, _⟩
      · exact absurd r' r
      · have hb3 : 2 ≤ b := by rcases hx with q | q; exact absurd q r; exact q
        have e : (2 : Int) ^ (b - 1) = 2 * 2 ^ (b - 2) := by
          rw [show b - 1 = b - 2 + 1 by omega, Int.pow_succ, Int.mul_comm]
        have := Int.mul_le_mul_of_nonneg_right (show 2 ^ (b - 1) ≤ m - 1 by omega) (show 0 ≤ Y by omega)
        omega
set_option maxRecDepth 10000 in
theorem p2_add (a b : Nat) : (2 : Int) ^ a * 2 ^ b = 2 ^ (a + b) := (Int.pow_add 2 a b).symm
set_option maxRecDepth 10000 in
theorem roV_all {s : Nat} (hs : s < 2) {m t X Y : Int} {b p n : Nat} (h0 : 0 < m) (hY : 0 < Y) (h : STK m X Y) (hb : isBL m b) (hb2 : b ≤ 62) (hx : X = m * Y ∨ szD s + 2 ≤ b) (hpn : (p : Int) - n = t - szL s) : NE s (X * 2 ^ p) (Y * 2 ^ n) (roV s m t b) := by
  obtain ⟨g1, g2, g3, g4⟩ := szGL hs
  obtain ⟨x1, x2, x3⟩ := STK_b h0 hY h hb (by rcases hx with q | q; exact Or.inl q; exact Or.inr (by omega))
  have hW : 0 < Y * 2 ^ n := Int.mul_pos hY (p2_pos n)
  have hX0 : 0 ≤ X := by
    have := Int.mul_nonneg (show (0 : Int) ≤ 2 ^ (b - 1) by have := p2_pos (b - 1); omega) (show 0 ≤ Y by omega)
    omega
  have hp := p2_pos p
  generalize hq : max (t + b - szD s) (szL s) = q
  by_cases c1 : 62 < q - t
  · have er : roV s m t b = 0 := by unfold roV; rw [hq, if_neg (by omega), if_pos c1]
    rw [er]
    refine NE_zero hs hW (Int.mul_nonneg hX0 (by omega)) ?_
    have a1 := Int.mul_lt_mul_of_pos_right x1 (p2_pos (p + 1))
    have a2 : (2 : Int) ^ (b + (p + 1)) ≤ 2 ^ n := p2_mono (by omega)
    have a3 := Int.mul_le_mul_of_nonneg_left a2 (show 0 ≤ Y by omega)
    rw [← p2_add] at a3
    have a4 : 2 ^ b * Y * (2 : Int) ^ (p + 1) = Y * (2 ^ b * 2 ^ (p + 1)) := by grind
    have a5 : X * (2 : Int) ^ (p + 1) = 2 * (X * 2 ^ p) := by rw [Int.pow_succ]; grind
    omega
  by_cases c2 : szG s < q
  · have er : roV s m t b = (2 ^ szK s - 1) * 2 ^ (szD s - 1) := by
      unfold roV
      rw [hq, if_neg (by omega), if_neg c1]
      split <;> exact r69_inf c2
    rw [er]
    refine NE_inf hs hW ?_
    rw [inf_val hs]
    have a1 := Int.mul_le_mul_of_nonneg_right x2 (show (0 : Int) ≤ 2 ^ p by omega)
    have a2 : (2 : Int) ^ (szD s - 1 + (szG s + 1 - szL s).toNat + n) ≤ 2 ^ (b - 1 + p) := p2_mono (by omega)
    have a3 := Int.mul_le_mul_of_nonneg_left a2 (show 0 ≤ Y by omega)
    rw [← p2_add, ← p2_add, ← p2_add] at a3
    have a4 : (2 : Int) ^ (szD s - 1) * 2 ^ (szG s + 1 - szL s).toNat * (Y * 2 ^ n) = Y * (2 ^ (szD s - 1) * 2 ^ (szG s + 1 - szL s).toNat * 2 ^ n) := by grind
    have a5 : (2 : Int) ^ (b - 1) * Y * 2 ^ p = Y * (2 ^ (b - 1) * 2 ^ p) := by grind
    omega
  by_cases c3 : q - t ≤ 0
  · have hX : X = m * Y := by rcases hx with r | r; exact r; omega
    have er : roV s m t b = r69 s q (m * 2 ^ (t - q).toNat) := by
      unfold roV
      rw [hq, if_neg (by omega), if_neg c1, if_pos c3]
    rw [er]
    have hcp := p2_pos (t - q).toNat
    have hc1 : m * 2 ^ (t - q).toNat < 2 ^ szD s := by
      have a1 := Int.mul_lt_mul_of_pos_right hb.1 hcp
      have a2 : (2 : Int) ^ (b + (t - q).toNat) ≤ 2 ^ szD s := p2_mono (by omega)
      rw [← p2_add] at a2
      omega
    have hn : 2 ^ (szD s - 1) ≤ m * 2 ^ (t - q).toNat ∨ q = szL s := by
      by_cases r : q = szL s
      · exact Or.inr r
      · refine Or.inl ?_
        have a1 := Int.mul_le_mul_of_nonneg_right (hb.2 x3) (show (0 : Int) ≤ 2 ^ (t - q).toNat by omega)
        rw [p2_add, show b - 1 + (t - q).toNat = szD s - 1 by omega] at a1
        exact a1
    have hc0 : 0 ≤ m * 2 ^ (t - q).toNat := Int.mul_nonneg (by omega) (by omega)
    have v := r69_val2 hs (q := q) (c := m * 2 ^ (t - q).toNat) (by omega) (by omega) hc0 (by omega) hn
    have rb := r69_b hs (q := q) (c := m * 2 ^ (t - q).toNat) (by omega) hc0
    have hi : r69 s q (m * 2 ^ (t - q).toNat) < (2 ^ szK s - 1) * 2 ^ (szD s - 1) := by
      apply Int.not_le.mp
      intro r
      have a1 := valS_mono hs (Int.le_of_lt (inf_b hs).1) r
      rw [v, inf_val hs] at a1
      have a2 := Int.mul_lt_mul_of_pos_right hc1 (p2_pos (q - szL s).toNat)
      have a3 : (2 : Int) ^ (szD s + (q - szL s).toNat) ≤ 2 ^ (szD s - 1 + (szG s + 1 - szL s).toNat) := p2_mono (by omega)
      rw [← p2_add, ← p2_add] at a3
      omega
    have key := NE_exact hs hY rb.1 hi
    refine NE_cross hY hW ?_ key
    rw [v, hX]
    have e : (2 : Int) ^ p = 2 ^ (t - q).toNat * 2 ^ (q - szL s).toNat * 2 ^ n := by
      rw [p2_add, p2_add]; congr 1; omega
    rw [e]
    grind
  · have key := roV_NE hs (X := X) (Y := Y) (m := m) (t := t) (q := q) (b := b) h0 hY h hb hq.symm (by omega) (by omega) (by rcases hx with r | r; exact Or.inl r; exact Or.inr (by omega)) (by omega)
    refine NE_cross (Int.mul_pos hY (p2_pos _)) hW ?_ key
    have e : (2 : Int) ^ (q - szL s).toNat * 2 ^ n = 2 ^ p * 2 ^ (q - t).toNat := by
      rw [p2_add, p2_add]; congr 1; omega
    grind
-- ZX
set_option maxRecDepth 10000 in
def rvK (K : Nat) (α : Nat → Nat) (L : Nat) (p : Int) : Int := (pre α L : Int) * 10 ^ (p - L + K).toNat
set_option maxRecDepth 10000 in
theorem rvK_ext {K : Nat} {α : Nat → Nat} {L : Nat} (h : ∀ i, L ≤ i → α i = 0) {p : Int} (k : Nat) (hp : 0 ≤ p - (L + k : Nat) + K) : rvK K α (L + k) p = rvK K α L p := by
  unfold rvK
  rw [pre_zero h k, Int.natCast_mul, Int.natCast_pow, Int.mul_assoc]
  congr 1
  rw [show (p - L + K).toNat = k + (p - (L + k : Nat) + K).toNat by omega, Int.pow_add]
  rfl
set_option maxRecDepth 10000 in
theorem compare_K {K : Nat} {αc βc : Nat → Int32} {α β : Nat → Nat} {n1 n2 an : Nat} {p1 p2 : Int} (ha : ∀ i, α i ≤ 9) (hb : ∀ i, β i ≤ 9) (hac : ∀ i, i < n1 → αc i = iI (α i)) (hbc : ∀ i, i < n2 → βc i = iI (β i)) (hza : ∀ i, n1 ≤ i → α i = 0) (hzb : ∀ i, n2 ≤ i → β i = 0) (h1 : n1 ≤ an) (h2 : n2 ≤ 1300) (han : an ≤ 99999) (hK : an + 2000 ≤ K) (hp1 : -600 ≤ p1) (hp1' : p1 ≤ 600) (hp2 : -600 ≤ p2) (hp2' : p2 ≤ 600) (ha0 : α 0 ≠ 0) (hb0 : β 0 ≠ 0) :
    f_Md_compare (iI n1) (iL p1) an (iI n2) (iI p2) βc αc = some (iI (cmpI (rvK K α n1 p1) (rvK K β n2 p2))) := by
  have hn1 : 0 < n1 := by rcases Nat.eq_zero_or_pos n1 with q | q; exact absurd (hza 0 (by omega)) ha0; exact q
  have hn2 : 0 < n2 := by rcases Nat.eq_zero_or_pos n2 with q | q; exact absurd (hzb 0 (by omega)) hb0; exact q
  unfold f_Md_compare
  simp (disch := omega) only [iI_lit, iL_lit, iI_add, iI_sub, iI_mul, iI_neg, iL_add, iL_sub, iL_mul, iL_neg, iI_lt, iI_le, iI_eq, iL_lt, iL_le, iL_eqS, iI_c, iI_ok, iI_l, iL_i, iI_low, l_ushrI, l_shlI, l_shrI, i_shlI, i_shrI, i_ushrI, iI_div, iL_div, Int.toNat_natCast, Int.reduceToNat, iI_ofNat]
  rw [if_neg (by omega), if_neg (by omega)]
  have big : ∀ (γ : Nat → Nat) (n : Nat) (p : Int), (∀ i, γ i ≤ 9) → γ 0 ≠ 0 → 0 < n → n + 700 ≤ K → -600 ≤ p → (10 : Int) ^ (p - 1 + K).toNat ≤ rvK K γ n p ∧ rvK K γ n p < 10 ^ (p + K).toNat := by
    intro γ n p h9 h0 hn hn2 hp
    have l1 := pre_lt h9 n
    have l2 := pre_ge h0 (n - 1)
    rw [show n - 1 + 1 = n by omega] at l2
    unfold rvK
    have hpp := p10_pos (p - n + K).toNat
    constructor
    · rw [show (p - 1 + K).toNat = (n - 1) + (p - n + K).toNat by omega, Int.pow_add]
      have : ((10 ^ (n - 1) : Nat) : Int) ≤ (pre γ n : Int) := Int.ofNat_le.mpr l2
      rw [Int.natCast_pow] at this
      exact Int.mul_le_mul_of_nonneg_right this (by omega)
    · rw [show (p + K).toNat = n + (p - n + K).toNat by omega, Int.pow_add]
      have : (pre γ n : Int) < ((10 ^ n : Nat) : Int) := Int.ofNat_lt.mpr l1
      rw [Int.natCast_pow] at this
      exact Int.mul_lt_mul_of_pos_right this hpp
  obtain ⟨a1, a2⟩ := big α n1 p1 ha ha0 hn1 (by omega) hp1
  obtain ⟨b1, b2⟩ := big β n2 p2 hb hb0 hn2 (by omega) hp2
  by_cases hp : p1 = p2
  · rw [if_pos hp]
    subst hp
    have := cmp65 (p4 := iI p1) (L := max n1 n2) ha hb hac hbc hza hzb h1 h2 (by omega) rfl (max n1 n2) 0 gx_fu (by omega) (by have := fu_pos; omega) (fun j hj => by omega)
    rw [show iI (0 : Int) = iI ((0 : Nat) : Int) from rfl, this]
    have e1 := rvK_ext (K := K) (L := n1) hza (p := p1) (max n1 n2 - n1) (by omega)
    have e2 := rvK_ext (K := K) (L := n2) hzb (p := p1) (max n1 n2 - n2) (by omega)
    rw [show n1 + (max n1 n2 - n1) = max n1 n2 by omega] at e1
    rw [show n2 + (max n1 n2 - n2) = max n1 n2 by omega] at e2
    rw [← e1, ← e2]
    unfold rvK cmpI
    have hpp := p10_pos (p1 - (max n1 n2 : Nat) + K).toNat
    generalize (10 : Int) ^ (p1 - (max n1 n2 : Nat) + K).toNat = X at *
    generalize (pre α (max n1 n2) : Int) = A
    generalize (pre β (max n1 n2) : Int) = B
    rcases Int.lt_trichotomy A B with q | q | q
    · rw [if_pos q, if_pos (Int.mul_lt_mul_of_pos_right q hpp)]
    · subst q; rw [if_neg (by omega), if_pos rfl, if_neg (by omega), if_pos rfl]
    · have := Int.mul_lt_mul_of_pos_right q hpp
      rw [if_neg (by omega), if_neg (by omega), if_neg (by omega), if_neg (by omega)]
  · rw [if_neg hp]
    unfold cmpI
    by_cases hle : p2 ≤ p1
    · rw [if_pos hle]
      have := p10I_mono (show (p2 + K).toNat ≤ (p1 - 1 + K).toNat by omega)
      rw [if_neg (by omega), if_neg (by omega)]
    · rw [if_neg hle]
      have := p10I_mono (show (p1 + K).toNat ≤ (p2 - 1 + K).toNat by omega)
      rw [if_pos (by omega)]
