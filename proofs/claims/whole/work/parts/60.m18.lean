-- YO
set_option maxRecDepth 10000 in
def MOR (m mo X Y : Int) : Prop := (mo = 0 ∧ X = m * Y) ∨ (mo = 1 ∧ m * Y < X ∧ X < (m + 1) * Y ∧ 288230376151711744 ≤ m)
set_option maxRecDepth 10000 in
theorem MOR_b {m mo X Y : Int} (hY : 0 < Y) (h : MOR m mo X Y) : m * Y ≤ X ∧ X < (m + 1) * Y := by
  have e : (m + 1) * Y = m * Y + Y := by grind
  rcases h with ⟨_, h⟩ | ⟨_, h1, h2, _⟩ <;> omega
set_option maxRecDepth 10000 in
theorem NE_top {s : Nat} (hs : s < 2) {m t X Y : Int} {n : Nat} (h0 : 0 < m) (hY : 0 < Y) (hX : m * Y ≤ X) (hb : isBL m n) (h : szG s + szD s + 1 ≤ t + n) : NE s (X * 2 ^ (t - szL s).toNat) (Y * 2 ^ (szL s - t).toNat) ((2 ^ szK s - 1) * 2 ^ (szD s - 1)) := by
  have gl := szGL hs
  have hnp := bl_pos hb h0
  have hG : 0 ≤ szG s := by rcases sz_cases hs with h | h <;> omega
  refine NE_inf hs (Int.mul_pos hY (p2_pos _)) ?_
  rw [inf_val hs]
  have a1 := Int.mul_le_mul_of_nonneg_right (hb.2 hnp) (show 0 ≤ Y by omega)
  have a2 := Int.mul_le_mul_of_nonneg_right (Int.le_trans a1 hX) (show (0 : Int) ≤ 2 ^ (t - szL s).toNat from Int.le_of_lt (p2_pos _))
  refine Int.le_trans ?_ a2
  have a3 : (2 : Int) ^ (szD s - 1 + (szG s + 1 - szL s).toNat + (szL s - t).toNat) ≤ 2 ^ (n - 1 + (t - szL s).toNat) := p2_mono (by omega)
  have a4 := Int.mul_le_mul_of_nonneg_left a3 (show 0 ≤ Y by omega)
  rw [← p2_add, ← p2_add, ← p2_add] at a4
  generalize (2 : Int) ^ (szD s - 1) = p1 at *
  generalize (2 : Int) ^ (szG s + 1 - szL s).toNat = p2 at *
  generalize (2 : Int) ^ (szL s - t).toNat = p3 at *
  generalize (2 : Int) ^ (n - 1) = p4 at *
  generalize (2 : Int) ^ (t - szL s).toNat = p5 at *
  have b1 : p1 * p2 * (Y * p3) = Y * (p1 * p2 * p3) := by grind
  have b2 : p4 * Y * p5 = Y * (p4 * p5) := by grind
  omega
set_option maxRecDepth 10000 in
theorem NE_bot {s : Nat} (hs : s < 2) {m t X Y : Int} {n : Nat} (h0 : 0 < m) (hY : 0 < Y) (hX0 : 0 ≤ X) (hX : X < (m + 1) * Y) (hb : isBL m n) (h : t + n + 1 ≤ szL s) : NE s (X * 2 ^ (t - szL s).toNat) (Y * 2 ^ (szL s - t).toNat) 0 := by
  rw [show (t - szL s).toNat = 0 by omega, Int.pow_zero, Int.mul_one]
  refine NE_zero hs (Int.mul_pos hY (p2_pos _)) hX0 ?_
  have a1 := Int.mul_le_mul_of_nonneg_right (show m + 1 ≤ 2 ^ n by have := hb.1; omega) (show 0 ≤ Y by omega)
  have a3 : (2 : Int) ^ (n + 1) ≤ 2 ^ (szL s - t).toNat := p2_mono (by omega)
  have a4 := Int.mul_le_mul_of_nonneg_left a3 (show 0 ≤ Y by omega)
  rw [Int.pow_succ] at a4
  generalize (2 : Int) ^ n = p1 at *
  generalize (2 : Int) ^ (szL s - t).toNat = p2 at *
  have b1 : Y * (p1 * 2) = 2 * (p1 * Y) := by grind
  omega
set_option maxRecDepth 10000 in
theorem NE_drop {s : Nat} (hs : s < 2) {m t X Y q mo : Int} {n : Nat} (h0 : 0 < m) (hY : 0 < Y) (hM : MOR m mo X Y) (hb : isBL m n) (hq : q = max (t + n - szD s) (szL s)) (hG : q ≤ szG s) (d0 : 1 ≤ q - t) (d1 : q - t ≤ n) : NE s (X * 2 ^ (t - szL s).toNat) (Y * 2 ^ (szL s - t).toNat) (r69 s q (m / 2 ^ (q - t).toNat + (if 2 ^ (q - t - 1).toNat < m % 2 ^ (q - t).toNat ∨ (m % 2 ^ (q - t).toNat = 2 ^ (q - t - 1).toNat ∧ (mo ≠ 0 ∨ m / 2 ^ (q - t).toNat % 2 = 1)) then 1 else 0))) := by
  obtain ⟨x0, x1⟩ := MOR_b hY hM
  have gl := szGL hs
  generalize hdd : (q - t).toNat = d at *
  have hd1 : 1 ≤ d := by omega
  have hP := p2_pos d
  have hPe : (2 : Int) ^ d = 2 * 2 ^ (q - t - 1).toNat := by
    rw [show d = (q - t - 1).toNat + 1 by omega, Int.pow_succ, Int.mul_comm]
  have hdm := Int.mul_ediv_add_emod m (2 ^ d)
  have hr0 := Int.emod_nonneg m (show (2 : Int) ^ d ≠ 0 by omega)
  have hr1 := Int.emod_lt_of_pos m hP
  have hc0 : 0 ≤ m / 2 ^ d := Int.ediv_nonneg (by omega) (by omega)
  have hcD : m / 2 ^ d < 2 ^ szD s := bl_div hb (by omega)
  have hn : 2 ^ (szD s - 1) ≤ m / 2 ^ d ∨ q = szL s := by
    by_cases r : q = szL s
    · exact Or.inr r
    · exact Or.inl (bl_div2 hb (by omega) (by omega))
  have hA := p2_pos (t - szL s).toNat
  have hB := p2_pos (szL s - t).toNat
  have hUB : (2 : Int) ^ (q - szL s).toNat * 2 ^ (szL s - t).toNat = 2 ^ d * 2 ^ (t - szL s).toNat := by
    rw [p2_add, p2_add]; congr 1; omega
  have key := NE_of hs (V := X * 2 ^ (t - szL s).toNat) (W := Y * 2 ^ (szL s - t).toNat) (q := q) (c := m / 2 ^ d) (U := 2 ^ (q - szL s).toNat) (Int.mul_pos hY hB) rfl (by omega) hG hc0 hcD hn
  generalize m / 2 ^ d = c at *
  generalize m % 2 ^ d = R at *
  generalize (2 : Int) ^ (q - t - 1).toNat = H at *
  generalize (2 : Int) ^ d = P at *
  generalize (2 : Int) ^ (q - szL s).toNat = U at *
  generalize (2 : Int) ^ (szL s - t).toNat = B at *
  generalize (2 : Int) ^ (t - szL s).toNat = A at *
  have hw : ∀ k : Int, k * U * (Y * B) = k * P * Y * A := by
    intro k
    have : k * U * (Y * B) = k * Y * (U * B) := by grind
    rw [this, hUB]; grind
  have em : m * Y = c * P * Y + R * Y := by rw [← hdm]; grind
  have em1 : (m + 1) * Y = c * P * Y + R * Y + Y := by rw [← hdm]; grind
  have ec1 : (c + 1) * P * Y = c * P * Y + P * Y := by grind
  have ec2 : (2 * c + 1) * P * Y = 2 * (c * P * Y) + 2 * (H * Y) := by rw [hPe]; grind
  have hRY : 0 ≤ R * Y := Int.mul_nonneg hr0 (by omega)
  have hRP : R * Y + Y ≤ P * Y := by
    have := Int.mul_le_mul_of_nonneg_right (show R + 1 ≤ P by omega) (show 0 ≤ Y by omega)
    have e : (R + 1) * Y = R * Y + Y := by grind
    omega
  have key2 := key (by rw [hw]; exact Int.mul_le_mul_of_nonneg_right (by omega) (by omega)) (by rw [hw]; exact Int.mul_lt_mul_of_pos_right (by omega) hA)
  rw [hw, show 2 * (X * A) = 2 * X * A by grind] at key2
  have e1 : ((2 * c + 1) * P * Y * A < 2 * X * A) = ((2 * c + 1) * P * Y < 2 * X) := propext ⟨fun h => Int.lt_of_mul_lt_mul_right h (by omega), fun h => Int.mul_lt_mul_of_pos_right h hA⟩
  have e2 : (2 * X * A = (2 * c + 1) * P * Y * A) = (2 * X = (2 * c + 1) * P * Y) := propext ⟨fun h => Int.eq_of_mul_eq_mul_right (by omega) h, fun h => by rw [h]⟩
  simp only [e1, e2] at key2
  rw [ec2] at key2
  have hcond : (2 * (c * P * Y) + 2 * (H * Y) < 2 * X ∨ (2 * X = 2 * (c * P * Y) + 2 * (H * Y) ∧ c % 2 = 1)) ↔ (H < R ∨ (R = H ∧ (mo ≠ 0 ∨ c % 2 = 1))) := by
    rcases Int.lt_trichotomy R H with k | k | k
    · have := Int.mul_le_mul_of_nonneg_right (show R + 1 ≤ H by omega) (show 0 ≤ Y by omega)
      have e : (R + 1) * Y = R * Y + Y := by grind
      constructor
      · intro h; omega
      · intro h; omega
    · subst k
      rcases hM with ⟨hmo, hx⟩ | ⟨hmo, hx, _, _⟩
      · constructor
        · intro h
          refine Or.inr ⟨rfl, Or.inr ?_⟩
          rcases h with h | h
          · omega
          · exact h.2
        · intro h
          refine Or.inr ⟨by omega, ?_⟩
          rcases h with h | h
          · omega
          · rcases h.2 with w | w
            · exact absurd hmo w
            · exact w
      · constructor
        · intro h; exact Or.inr ⟨rfl, Or.inl (by omega)⟩
        · intro h; exact Or.inl (by omega)
    · have := Int.mul_le_mul_of_nonneg_right (show H + 1 ≤ R by omega) (show 0 ≤ Y by omega)
      have e : (H + 1) * Y = H * Y + Y := by grind
      constructor
      · intro h; exact Or.inl k
      · intro h; exact Or.inl (by omega)
  by_cases w : H < R ∨ (R = H ∧ (mo ≠ 0 ∨ c % 2 = 1))
  · rw [if_pos w]
    rw [if_pos (hcond.mpr w)] at key2
    exact key2
  · rw [if_neg w]
    rw [if_neg (fun h => w (hcond.mp h))] at key2
    exact key2
-- YP
set_option maxRecDepth 10000 in
theorem NE_rb {s : Nat} {V W r : Int} (h : NE s V W r) : 0 ≤ r ∧ r ≤ (2 ^ szK s - 1) * 2 ^ (szD s - 1) := by
  obtain ⟨a, a0, a1, _, _, a5⟩ := h
  rw [a5]; split <;> omega
set_option maxRecDepth 10000 in
theorem mrV_NE {s : Nat} (hs : s < 2) {m t X Y q mo : Int} {n : Nat} (h0 : 0 < m) (hY : 0 < Y) (hM : MOR m mo X Y) (hb : isBL m n) (hn62 : n ≤ 62) (hq : q = max (t + n - szD s) (szL s)) : (q - t ≤ 0 → mo = 0) ∧ NE s (X * 2 ^ (t - szL s).toNat) (Y * 2 ^ (szL s - t).toNat) (mrV s m t q n mo) := by
  obtain ⟨x0, x1⟩ := MOR_b hY hM
  have gl := szGL hs
  have g53 : szD s ≤ 53 := by rcases sz_cases hs with h | h <;> omega
  have hX0 : 0 ≤ X := Int.le_trans (Int.mul_nonneg (by omega) (by omega)) x0
  have hmo : q - t ≤ 0 → mo = 0 ∧ X = m * Y := by
    intro h
    rcases hM with h' | ⟨_, _, _, h'⟩
    · exact h'
    · exfalso
      have : 59 ≤ n := by
        rcases Nat.lt_or_ge n 59 with k | k
        · have a1 := hb.1
          have a2 : (2 : Int) ^ n ≤ 2 ^ 58 := p2_mono (by omega)
          rw [show (2 : Int) ^ 58 = 288230376151711744 from by decide] at a2
          omega
        · exact k
      omega
  refine ⟨fun h => (hmo h).1, ?_⟩
  unfold mrV
  by_cases d0 : q - t ≤ 0
  · rw [if_pos d0]
    have key := roV_all hs (t := t) (p := (t - szL s).toNat) (n := (szL s - t).toNat) h0 hY (Or.inl (hmo d0).2) hb hn62 (Or.inl (hmo d0).2) (by omega)
    have e : roV s m t n = r69 s q (m * 2 ^ (t - q).toNat) := by
      unfold roV
      rw [← hq, if_neg (by omega), if_neg (by omega), if_pos d0]
    rw [e] at key
    exact key
  · rw [if_neg d0]
    by_cases d1 : (n : Int) < q - t
    · rw [if_pos d1]
      have : r69 s q 0 = 0 := by
        unfold r69 r92
        rw [if_pos (p2_pos _), if_pos (by omega), if_pos (p2_pos _)]
      rw [this]
      exact NE_bot hs h0 hY hX0 x1 hb (by omega)
    · rw [if_neg d1]
      by_cases d2 : q ≤ szG s
      · exact NE_drop hs h0 hY hM hb hq d2 (by omega) (by omega)
      · rw [r69_inf (by omega)]
        exact NE_top hs h0 hY x0 hb (by omega)
set_option maxRecDepth 10000 in
theorem mround_spec {s : Nat} (hs : s < 2) {m t X Y mo : Int} (h0 : 0 ≤ m) (h62 : m < 4611686018427387904) (hY : 0 < Y) (hM : MOR m mo X Y) (ht0 : -500000000 ≤ t) (ht1 : t ≤ 500000000) :
    ∃ r, f_Md_rounded (iL m) (iL t) (iI mo) (iI (szD s)) (iI (szL s)) = some (iL r) ∧ 0 ≤ r ∧ r ≤ (2 ^ szK s - 1) * 2 ^ (szD s - 1) ∧ (m = 0 → r = 0) ∧ (0 < m → NE s (X * 2 ^ (t - szL s).toNat) (Y * 2 ^ (szL s - t).toNat) r) := by
  have ib := inf_b hs
  have gl := szGL hs
  have zp := sz_p hs
  have g53 : szD s ≤ 53 ∧ szG s ≤ 971 := by rcases sz_cases hs with h | h <;> omega
  unfold f_Md_rounded
  by_cases hm : m = 0
  · subst hm
    rw [if_pos (show iL 0 = 0 from rfl)]
    exact ⟨0, rfl, by omega, by omega, fun _ => rfl, fun h => absurd h (by omega)⟩
  · have hm0 : 0 < m := by omega
    obtain ⟨n, _, hb, hnl⟩ := nlzL_spec (v := m) h0 (by omega)
    have hn62 : n ≤ 62 := bl_le hb (by rw [show (2 : Int) ^ 62 = 4611686018427387904 from by decide]; exact h62)
    obtain ⟨x0, x1⟩ := MOR_b hY hM
    have hX0 : 0 ≤ X := Int.le_trans (Int.mul_nonneg (by omega) (by omega)) x0
    rw [if_neg (show ¬ iL m = 0 from by rw [show (0 : Int64) = iL 0 from rfl, iL_eqU h0 (by omega) (by omega) (by omega)]; exact hm), hnl, Option.bind_some]
    rw [show (64 : Int32) = iI 64 from rfl, iI_sub, show (64 : Int) - (64 - (n : Int)) = n by omega, iI_l (by omega) (by omega), iL_add, inf_spec hs, Option.bind_some, iL_i, iI_sub]
    have fin : ∀ r, NE s (X * 2 ^ (t - szL s).toNat) (Y * 2 ^ (szL s - t).toNat) r → ∃ r', some (iL r) = some (iL r') ∧ 0 ≤ r' ∧ r' ≤ (2 ^ szK s - 1) * 2 ^ (szD s - 1) ∧ (m = 0 → r' = 0) ∧ (0 < m → NE s (X * 2 ^ (t - szL s).toNat) (Y * 2 ^ (szL s - t).toNat) r') := fun r hr => ⟨r, rfl, (NE_rb hr).1, (NE_rb hr).2, fun h => absurd h hm, fun _ => hr⟩
    by_cases c1 : t + n ≤ 5000
    · rw [if_pos (show iL (t + n) ≤ 5000 from by simp (disch := omega) only [iI_lit, iL_lit, iI_add, iI_sub, iI_mul, iI_neg, iL_add, iL_sub, iL_mul, iL_neg, iI_lt, iI_le, iI_eq, iL_lt, iL_le, iL_eqS, iI_c, iI_ok, iI_l, iL_i, iI_low, l_ushrI, l_shlI, l_shrI, i_shlI, i_shrI, i_ushrI, iI_div, iL_div, Int.toNat_natCast, Int.reduceToNat, iI_ofNat]; omega)]
      by_cases c2 : -5000 ≤ t + n
      · rw [if_pos (show (-5000 : Int64) ≤ iL (t + n) from by simp (disch := omega) only [iI_lit, iL_lit, iI_add, iI_sub, iI_mul, iI_neg, iL_add, iL_sub, iL_mul, iL_neg, iI_lt, iI_le, iI_eq, iL_lt, iL_le, iL_eqS, iI_c, iI_ok, iI_l, iL_i, iI_low, l_ushrI, l_shlI, l_shrI, i_shlI, i_shrI, i_ushrI, iI_div, iL_div, Int.toNat_natCast, Int.reduceToNat, iI_ofNat]; omega)]
        have hmo : mo = 0 ∨ mo = 1 := by rcases hM with h | h; exact Or.inl h.1; exact Or.inr h.1
        by_cases c3 : t + n - szD s ≤ szL s
        · rw [if_pos (show iI (t + n - szD s) ≤ iI (szL s) from by simp (disch := omega) only [iI_lit, iL_lit, iI_add, iI_sub, iI_mul, iI_neg, iL_add, iL_sub, iL_mul, iL_neg, iI_lt, iI_le, iI_eq, iL_lt, iL_le, iL_eqS, iI_c, iI_ok, iI_l, iL_i, iI_low, l_ushrI, l_shlI, l_shrI, i_shlI, i_shrI, i_ushrI, iI_div, iL_div, Int.toNat_natCast, Int.reduceToNat, iI_ofNat]; omega)]
          obtain ⟨k1, k2⟩ := mrV_NE hs (t := t) (q := szL s) hm0 hY hM hb hn62 (by omega)
          rw [mr79 hs hm0 hb hn62 (by omega) (by omega) (by omega) hmo k1]
          exact fin _ k2
        · rw [if_neg (show ¬ iI (t + n - szD s) ≤ iI (szL s) from by simp (disch := omega) only [iI_lit, iL_lit, iI_add, iI_sub, iI_mul, iI_neg, iL_add, iL_sub, iL_mul, iL_neg, iI_lt, iI_le, iI_eq, iL_lt, iL_le, iL_eqS, iI_c, iI_ok, iI_l, iL_i, iI_low, l_ushrI, l_shlI, l_shrI, i_shlI, i_shrI, i_ushrI, iI_div, iL_div, Int.toNat_natCast, Int.reduceToNat, iI_ofNat]; omega)]
          obtain ⟨k1, k2⟩ := mrV_NE hs (t := t) (q := t + n - szD s) hm0 hY hM hb hn62 (by omega)
          rw [mr79 hs hm0 hb hn62 (by omega) (by omega) (by omega) hmo k1]
          exact fin _ k2
      · rw [if_neg (show ¬ (-5000 : Int64) ≤ iL (t + n) from by simp (disch := omega) only [iI_lit, iL_lit, iI_add, iI_sub, iI_mul, iI_neg, iL_add, iL_sub, iL_mul, iL_neg, iI_lt, iI_le, iI_eq, iL_lt, iL_le, iL_eqS, iI_c, iI_ok, iI_l, iL_i, iI_low, l_ushrI, l_shlI, l_shrI, i_shlI, i_shrI, i_ushrI, iI_div, iL_div, Int.toNat_natCast, Int.reduceToNat, iI_ofNat]; omega)]
        exact fin 0 (NE_bot hs hm0 hY hX0 x1 hb (by omega))
    · rw [if_neg (show ¬ iL (t + n) ≤ 5000 from by simp (disch := omega) only [iI_lit, iL_lit, iI_add, iI_sub, iI_mul, iI_neg, iL_add, iL_sub, iL_mul, iL_neg, iI_lt, iI_le, iI_eq, iL_lt, iL_le, iL_eqS, iI_c, iI_ok, iI_l, iL_i, iI_low, l_ushrI, l_shlI, l_shrI, i_shlI, i_shrI, i_ushrI, iI_div, iL_div, Int.toNat_natCast, Int.reduceToNat, iI_ofNat]; omega)]
      exact fin _ (NE_top hs hm0 hY x0 hb (by omega))
-- YQ
set_option maxRecDepth 10000 in
def hv (x : Int) : Int := if 48 ≤ x ∧ x ≤ 57 then x - 48 else if 97 ≤ x ∧ x ≤ 102 then x - 87 else if 65 ≤ x ∧ x ≤ 70 then x - 55 else -1
set_option maxRecDepth 10000 in
theorem hv_b (x : Int) : -1 ≤ hv x ∧ hv x ≤ 15 := by
  unfold hv
  split
  · omega
  · split
    · omega
    · split <;> omega
set_option maxRecDepth 10000 in
theorem hexV_spec {x : Int} (h0 : -1 ≤ x) (h1 : x < 256) : f_Rd_hexValue (iI x) = some (iI (hv x)) := by
  unfold f_Rd_hexValue f_Rd_hexValue_32 f_Rd_hexValue_54 hv
  rw [ntdig_spec h0 h1, Option.bind_some]
  by_cases a : 48 ≤ x ∧ x ≤ 57
  · rw [if_pos a, if_neg (show ¬ iI 1 = 0 from by decide), if_pos a, show (48 : Int32) = iI 48 from rfl, iI_sub]
  · rw [if_neg a, if_pos (show iI 0 = 0 from rfl), if_neg a, show (10 : Int32) = iI 10 from rfl]
    by_cases b : 97 ≤ x ∧ x ≤ 102
    · rw [if_pos b, if_neg (show ¬ iI x < 97 from by simp (disch := omega) only [iI_lit, iL_lit, iI_add, iI_sub, iI_mul, iI_neg, iL_add, iL_sub, iL_mul, iL_neg, iI_lt, iI_le, iI_eq, iL_lt, iL_le, iL_eqS, iI_c, iI_ok, iI_l, iL_i, iI_low, l_ushrI, l_shlI, l_shrI, i_shlI, i_shrI, i_ushrI, iI_div, iL_div, Int.toNat_natCast, Int.reduceToNat, iI_ofNat]; omega), if_neg (show ¬ (102 : Int32) < iI x from by simp (disch := omega) only [iI_lit, iL_lit, iI_add, iI_sub, iI_mul, iI_neg, iL_add, iL_sub, iL_mul, iL_neg, iI_lt, iI_le, iI_eq, iL_lt, iL_le, iL_eqS, iI_c, iI_ok, iI_l, iL_i, iI_low, l_ushrI, l_shlI, l_shrI, i_shlI, i_shrI, i_ushrI, iI_div, iL_div, Int.toNat_natCast, Int.reduceToNat, iI_ofNat]; omega), show (97 : Int32) = iI 97 from rfl, iI_sub, iI_add]
      congr 2; omega
    · rw [if_neg b]
      have rest : (if iI x < 65 then some (-1 : Int32) else if (70 : Int32) < iI x then some (-1 : Int32) else some (iI x - 65 + iI 10)) = some (iI (if 65 ≤ x ∧ x ≤ 70 then x - 55 else -1)) := by
        by_cases c : x < 65
        · rw [if_pos (show iI x < 65 from by simp (disch := omega) only [iI_lit, iL_lit, iI_add, iI_sub, iI_mul, iI_neg, iL_add, iL_sub, iL_mul, iL_neg, iI_lt, iI_le, iI_eq, iL_lt, iL_le, iL_eqS, iI_c, iI_ok, iI_l, iL_i, iI_low, l_ushrI, l_shlI, l_shrI, i_shlI, i_shrI, i_ushrI, iI_div, iL_div, Int.toNat_natCast, Int.reduceToNat, iI_ofNat]; omega), if_neg (by omega)]; rfl
        · rw [if_neg (show ¬ iI x < 65 from by simp (disch := omega) only [iI_lit, iL_lit, iI_add, iI_sub, iI_mul, iI_neg, iL_add, iL_sub, iL_mul, iL_neg, iI_lt, iI_le, iI_eq, iL_lt, iL_le, iL_eqS, iI_c, iI_ok, iI_l, iL_i, iI_low, l_ushrI, l_shlI, l_shrI, i_shlI, i_shrI, i_ushrI, iI_div, iL_div, Int.toNat_natCast, Int.reduceToNat, iI_ofNat]; omega)]
          by_cases d : x ≤ 70
          · rw [if_neg (show ¬ (70 : Int32) < iI x from by simp (disch := omega) only [iI_lit, iL_lit, iI_add, iI_sub, iI_mul, iI_neg, iL_add, iL_sub, iL_mul, iL_neg, iI_lt, iI_le, iI_eq, iL_lt, iL_le, iL_eqS, iI_c, iI_ok, iI_l, iL_i, iI_low, l_ushrI, l_shlI, l_shrI, i_shlI, i_shrI, i_ushrI, iI_div, iL_div, Int.toNat_natCast, Int.reduceToNat, iI_ofNat]; omega), if_pos (by omega), show (65 : Int32) = iI 65 from rfl, iI_sub, iI_add]
            congr 2; omega
          · rw [if_pos (show (70 : Int32) < iI x from by simp (disch := omega) only [iI_lit, iL_lit, iI_add, iI_sub, iI_mul, iI_neg, iL_add, iL_sub, iL_mul, iL_neg, iI_lt, iI_le, iI_eq, iL_lt, iL_le, iL_eqS, iI_c, iI_ok, iI_l, iL_i, iI_low, l_ushrI, l_shlI, l_shrI, i_shlI, i_shrI, i_ushrI, iI_div, iL_div, Int.toNat_natCast, Int.reduceToNat, iI_ofNat]; omega), if_neg (by omega)]; rfl
      rw [rest]
      by_cases c : x < 97
      · rw [if_pos (show iI x < 97 from by simp (disch := omega) only [iI_lit, iL_lit, iI_add, iI_sub, iI_mul, iI_neg, iL_add, iL_sub, iL_mul, iL_neg, iI_lt, iI_le, iI_eq, iL_lt, iL_le, iL_eqS, iI_c, iI_ok, iI_l, iL_i, iI_low, l_ushrI, l_shlI, l_shrI, i_shlI, i_shrI, i_ushrI, iI_div, iL_div, Int.toNat_natCast, Int.reduceToNat, iI_ofNat]; omega)]
      · rw [if_neg (show ¬ iI x < 97 from by simp (disch := omega) only [iI_lit, iL_lit, iI_add, iI_sub, iI_mul, iI_neg, iL_add, iL_sub, iL_mul, iL_neg, iI_lt, iI_le, iI_eq, iL_lt, iL_le, iL_eqS, iI_c, iI_ok, iI_l, iL_i, iI_low, l_ushrI, l_shlI, l_shrI, i_shlI, i_shrI, i_ushrI, iI_div, iL_div, Int.toNat_natCast, Int.reduceToNat, iI_ofNat]; omega), if_pos (show (102 : Int32) < iI x from by simp (disch := omega) only [iI_lit, iL_lit, iI_add, iI_sub, iI_mul, iI_neg, iL_add, iL_sub, iL_mul, iL_neg, iI_lt, iI_le, iI_eq, iL_lt, iL_le, iL_eqS, iI_c, iI_ok, iI_l, iL_i, iI_low, l_ushrI, l_shlI, l_shrI, i_shlI, i_shrI, i_ushrI, iI_div, iL_div, Int.toNat_natCast, Int.reduceToNat, iI_ofNat]; omega)]
set_option maxRecDepth 10000 in
theorem mhexD_spec {t : Int32} {tc : Nat → Int32} {E : List Int32} (h : TP t tc E) (hE : E.length ≤ 65536) {z i : Nat} (hz : z ≤ E.length) (hi : i ≤ 1000000) : f_Md_hexDigit (iI i) (iI z) tc = some (iI (hv (hr E z i))) := by
  unfold f_Md_hexDigit hr
  by_cases q : i < z
  · obtain ⟨a, a0, a1, e, ea⟩ := tp_at h (show i < E.length by omega)
    rw [if_pos (show iI i < iI (z : Int) from by simp (disch := omega) only [iI_lit, iL_lit, iI_add, iI_sub, iI_mul, iI_neg, iL_add, iL_sub, iL_mul, iL_neg, iI_lt, iI_le, iI_eq, iL_lt, iL_le, iL_eqS, iI_c, iI_ok, iI_l, iL_i, iI_low, l_ushrI, l_shlI, l_shrI, i_shlI, i_shrI, i_ushrI, iI_div, iL_div, Int.toNat_natCast, Int.reduceToNat, iI_ofNat]; omega), if_pos q]
    rw [if_pos (show gx_ok (iI (i : Int)) 65536 = true from by simp (disch := omega) only [iI_lit, iL_lit, iI_add, iI_sub, iI_mul, iI_neg, iL_add, iL_sub, iL_mul, iL_neg, iI_lt, iI_le, iI_eq, iL_lt, iL_le, iL_eqS, iI_c, iI_ok, iI_l, iL_i, iI_low, l_ushrI, l_shlI, l_shrI, i_shlI, i_shrI, i_ushrI, iI_div, iL_div, Int.toNat_natCast, Int.reduceToNat, iI_ofNat]; omega), iI_c (by omega) (by omega), Int.toNat_natCast, e, ea]
    unfold f_Md_hexDigit_42 f_Md_hexDigit_64 f_Md_hexDigit_86
    have hv_neg : ¬ 0 ≤ a → hv (if 0 ≤ a then a else a + 256) = -1 := by
      intro w
      rw [if_neg w]
      unfold hv
      rw [if_neg (by omega), if_neg (by omega), if_neg (by omega)]
    by_cases w : 0 ≤ a
    · rw [if_pos w]
      unfold hv
      rw [show (10 : Int32) = iI 10 from rfl]
      have rest : (if iI a < 65 then some (-1 : Int32) else if (70 : Int32) < iI a then some (-1 : Int32) else some (iI a - 65 + iI 10)) = some (iI (if 65 ≤ a ∧ a ≤ 70 then a - 55 else -1)) := by
        by_cases c : a < 65
        · rw [if_pos (show iI a < 65 from by simp (disch := omega) only [iI_lit, iL_lit, iI_add, iI_sub, iI_mul, iI_neg, iL_add, iL_sub, iL_mul, iL_neg, iI_lt, iI_le, iI_eq, iL_lt, iL_le, iL_eqS, iI_c, iI_ok, iI_l, iL_i, iI_low, l_ushrI, l_shlI, l_shrI, i_shlI, i_shrI, i_ushrI, iI_div, iL_div, Int.toNat_natCast, Int.reduceToNat, iI_ofNat]; omega), if_neg (by omega)]; rfl
        · rw [if_neg (show ¬ iI a < 65 from by simp (disch := omega) only [iI_lit, iL_lit, iI_add, iI_sub, iI_mul, iI_neg, iL_add, iL_sub, iL_mul, iL_neg, iI_lt, iI_le, iI_eq, iL_lt, iL_le, iL_eqS, iI_c, iI_ok, iI_l, iL_i, iI_low, l_ushrI, l_shlI, l_shrI, i_shlI, i_shrI, i_ushrI, iI_div, iL_div, Int.toNat_natCast, Int.reduceToNat, iI_ofNat]; omega)]
          by_cases d : a ≤ 70
          · rw [if_neg (show ¬ (70 : Int32) < iI a from by simp (disch := omega) only [iI_lit, iL_lit, iI_add, iI_sub, iI_mul, iI_neg, iL_add, iL_sub, iL_mul, iL_neg, iI_lt, iI_le, iI_eq, iL_lt, iL_le, iL_eqS, iI_c, iI_ok, iI_l, iL_i, iI_low, l_ushrI, l_shlI, l_shrI, i_shlI, i_shrI, i_ushrI, iI_div, iL_div, Int.toNat_natCast, Int.reduceToNat, iI_ofNat]; omega), if_pos (by omega), show (65 : Int32) = iI 65 from rfl, iI_sub, iI_add]
            congr 2; omega
          · rw [if_pos (show (70 : Int32) < iI a from by simp (disch := omega) only [iI_lit, iL_lit, iI_add, iI_sub, iI_mul, iI_neg, iL_add, iL_sub, iL_mul, iL_neg, iI_lt, iI_le, iI_eq, iL_lt, iL_le, iL_eqS, iI_c, iI_ok, iI_l, iL_i, iI_low, l_ushrI, l_shlI, l_shrI, i_shlI, i_shrI, i_ushrI, iI_div, iL_div, Int.toNat_natCast, Int.reduceToNat, iI_ofNat]; omega), if_neg (by omega)]; rfl
      have rest2 : (if iI a < 97 then some (iI (if 65 ≤ a ∧ a ≤ 70 then a - 55 else -1)) else if (102 : Int32) < iI a then some (iI (if 65 ≤ a ∧ a ≤ 70 then a - 55 else -1)) else some (iI a - 97 + iI 10)) = some (iI (if 97 ≤ a ∧ a ≤ 102 then a - 87 else if 65 ≤ a ∧ a ≤ 70 then a - 55 else -1)) := by
        by_cases c : a < 97
        · rw [if_pos (show iI a < 97 from by simp (disch := omega) only [iI_lit, iL_lit, iI_add, iI_sub, iI_mul, iI_neg, iL_add, iL_sub, iL_mul, iL_neg, iI_lt, iI_le, iI_eq, iL_lt, iL_le, iL_eqS, iI_c, iI_ok, iI_l, iL_i, iI_low, l_ushrI, l_shlI, l_shrI, i_shlI, i_shrI, i_ushrI, iI_div, iL_div, Int.toNat_natCast, Int.reduceToNat, iI_ofNat]; omega), if_neg (show ¬ (97 ≤ a ∧ a ≤ 102) by omega)]
        · rw [if_neg (show ¬ iI a < 97 from by simp (disch := omega) only [iI_lit, iL_lit, iI_add, iI_sub, iI_mul, iI_neg, iL_add, iL_sub, iL_mul, iL_neg, iI_lt, iI_le, iI_eq, iL_lt, iL_le, iL_eqS, iI_c, iI_ok, iI_l, iL_i, iI_low, l_ushrI, l_shlI, l_shrI, i_shlI, i_shrI, i_ushrI, iI_div, iL_div, Int.toNat_natCast, Int.reduceToNat, iI_ofNat]; omega)]
          by_cases d : a ≤ 102
          · rw [if_neg (show ¬ (102 : Int32) < iI a from by simp (disch := omega) only [iI_lit, iL_lit, iI_add, iI_sub, iI_mul, iI_neg, iL_add, iL_sub, iL_mul, iL_neg, iI_lt, iI_le, iI_eq, iL_lt, iL_le, iL_eqS, iI_c, iI_ok, iI_l, iL_i, iI_low, l_ushrI, l_shlI, l_shrI, i_shlI, i_shrI, i_ushrI, iI_div, iL_div, Int.toNat_natCast, Int.reduceToNat, iI_ofNat]; omega), if_pos (show 97 ≤ a ∧ a ≤ 102 by omega), show (97 : Int32) = iI 97 from rfl, iI_sub, iI_add]
            congr 2; omega
          · rw [if_pos (show (102 : Int32) < iI a from by simp (disch := omega) only [iI_lit, iL_lit, iI_add, iI_sub, iI_mul, iI_neg, iL_add, iL_sub, iL_mul, iL_neg, iI_lt, iI_le, iI_eq, iL_lt, iL_le, iL_eqS, iI_c, iI_ok, iI_l, iL_i, iI_low, l_ushrI, l_shlI, l_shrI, i_shlI, i_shrI, i_ushrI, iI_div, iL_div, Int.toNat_natCast, Int.reduceToNat, iI_ofNat]; omega), if_neg (show ¬ (97 ≤ a ∧ a ≤ 102) by omega)]
      rw [rest, rest2]
      by_cases c : a < 48
      · rw [if_pos (show iI a < 48 from by simp (disch := omega) only [iI_lit, iL_lit, iI_add, iI_sub, iI_mul, iI_neg, iL_add, iL_sub, iL_mul, iL_neg, iI_lt, iI_le, iI_eq, iL_lt, iL_le, iL_eqS, iI_c, iI_ok, iI_l, iL_i, iI_low, l_ushrI, l_shlI, l_shrI, i_shlI, i_shrI, i_ushrI, iI_div, iL_div, Int.toNat_natCast, Int.reduceToNat, iI_ofNat]; omega), if_neg (show ¬ (48 ≤ a ∧ a ≤ 57) by omega)]
      · rw [if_neg (show ¬ iI a < 48 from by simp (disch := omega) only [iI_lit, iL_lit, iI_add, iI_sub, iI_mul, iI_neg, iL_add, iL_sub, iL_mul, iL_neg, iI_lt, iI_le, iI_eq, iL_lt, iL_le, iL_eqS, iI_c, iI_ok, iI_l, iL_i, iI_low, l_ushrI, l_shlI, l_shrI, i_shlI, i_shrI, i_ushrI, iI_div, iL_div, Int.toNat_natCast, Int.reduceToNat, iI_ofNat]; omega)]
        by_cases d : a ≤ 57
        · rw [if_neg (show ¬ (57 : Int32) < iI a from by simp (disch := omega) only [iI_lit, iL_lit, iI_add, iI_sub, iI_mul, iI_neg, iL_add, iL_sub, iL_mul, iL_neg, iI_lt, iI_le, iI_eq, iL_lt, iL_le, iL_eqS, iI_c, iI_ok, iI_l, iL_i, iI_low, l_ushrI, l_shlI, l_shrI, i_shlI, i_shrI, i_ushrI, iI_div, iL_div, Int.toNat_natCast, Int.reduceToNat, iI_ofNat]; omega), if_pos (show 48 ≤ a ∧ a ≤ 57 by omega), show (48 : Int32) = iI 48 from rfl, iI_sub]
        · rw [if_pos (show (57 : Int32) < iI a from by simp (disch := omega) only [iI_lit, iL_lit, iI_add, iI_sub, iI_mul, iI_neg, iL_add, iL_sub, iL_mul, iL_neg, iI_lt, iI_le, iI_eq, iL_lt, iL_le, iL_eqS, iI_c, iI_ok, iI_l, iL_i, iI_low, l_ushrI, l_shlI, l_shrI, i_shlI, i_shrI, i_ushrI, iI_div, iL_div, Int.toNat_natCast, Int.reduceToNat, iI_ofNat]; omega), if_neg (show ¬ (48 ≤ a ∧ a ≤ 57) by omega)]
    · rw [hv_neg w, if_pos (show iI a < 48 from by simp (disch := omega) only [iI_lit, iL_lit, iI_add, iI_sub, iI_mul, iI_neg, iL_add, iL_sub, iL_mul, iL_neg, iI_lt, iI_le, iI_eq, iL_lt, iL_le, iL_eqS, iI_c, iI_ok, iI_l, iL_i, iI_low, l_ushrI, l_shlI, l_shrI, i_shlI, i_shrI, i_ushrI, iI_div, iL_div, Int.toNat_natCast, Int.reduceToNat, iI_ofNat]; omega), if_pos (show iI a < 97 from by simp (disch := omega) only [iI_lit, iL_lit, iI_add, iI_sub, iI_mul, iI_neg, iL_add, iL_sub, iL_mul, iL_neg, iI_lt, iI_le, iI_eq, iL_lt, iL_le, iL_eqS, iI_c, iI_ok, iI_l, iL_i, iI_low, l_ushrI, l_shlI, l_shrI, i_shlI, i_shrI, i_ushrI, iI_div, iL_div, Int.toNat_natCast, Int.reduceToNat, iI_ofNat]; omega), if_pos (show iI a < 65 from by simp (disch := omega) only [iI_lit, iL_lit, iI_add, iI_sub, iI_mul, iI_neg, iL_add, iL_sub, iL_mul, iL_neg, iI_lt, iI_le, iI_eq, iL_lt, iL_le, iL_eqS, iI_c, iI_ok, iI_l, iL_i, iI_low, l_ushrI, l_shlI, l_shrI, i_shlI, i_shrI, i_ushrI, iI_div, iL_div, Int.toNat_natCast, Int.reduceToNat, iI_ofNat]; omega)]
      rfl
  · rw [if_neg (show ¬ iI i < iI (z : Int) from by simp (disch := omega) only [iI_lit, iL_lit, iI_add, iI_sub, iI_mul, iI_neg, iL_add, iL_sub, iL_mul, iL_neg, iI_lt, iI_le, iI_eq, iL_lt, iL_le, iL_eqS, iI_c, iI_ok, iI_l, iL_i, iI_low, l_ushrI, l_shlI, l_shrI, i_shlI, i_shrI, i_ushrI, iI_div, iL_div, Int.toNat_natCast, Int.reduceToNat, iI_ofNat]; omega), if_neg q]
    rfl
set_option maxRecDepth 10000 in
def hRun (E : List Int32) (z : Nat) : Nat → Nat → Nat → Nat × Nat
  | 0, N, i => (N, i)
  | d + 1, N, i => if 0 ≤ hv (hr E z i) then hRun E z d (16 * N + (hv (hr E z i)).toNat) (i + 1) else (N, i)
set_option maxRecDepth 10000 in
theorem hRun_b (E : List Int32) (z : Nat) : ∀ d N i, i ≤ (hRun E z d N i).2 ∧ (hRun E z d N i).2 ≤ i + d
  | 0, N, i => ⟨Nat.le_refl _, Nat.le_refl _⟩
  | d + 1, N, i => by
    have := hRun_b E z d (16 * N + (hv (hr E z i)).toNat) (i + 1)
    unfold hRun
    split <;> omega
set_option maxRecDepth 10000 in
theorem hv_in {E : List Int32} {z i : Nat} (h : 0 ≤ hv (hr E z i)) : i < z := by
  by_cases q : i < z
  · exact q
  · have : hr E z i = -1 := if_neg q
    rw [this] at h
    exact absurd h (by decide)
set_option maxRecDepth 10000 in
theorem hRun_dig (E : List Int32) (z : Nat) : ∀ d N i, i + d = z → ¬ 0 ≤ hv (hr E z (hRun E z d N i).2)
  | 0, N, i, h => fun q => by have := hv_in (E := E) (z := z) (i := i) q; omega
  | d + 1, N, i, h => by
    unfold hRun
    by_cases q : 0 ≤ hv (hr E z i)
    · rw [if_pos q]; exact hRun_dig E z d _ (i + 1) (by omega)
    · rw [if_neg q]; exact q
set_option maxRecDepth 10000 in
def HS (T k H f : Nat) (m lo po : Int) : Prop := ∃ g : Nat, m = ((H / 16 ^ g : Nat) : Int) ∧ m < 2 ^ (T + 4) ∧ (0 < g → 2 ^ T ≤ m) ∧ lo = (if H % 16 ^ g = 0 then 0 else 1) ∧ po = 4 * ((g : Int) - f) ∧ g ≤ k ∧ f ≤ k ∧ H < 16 ^ k
set_option maxRecDepth 10000 in
theorem hcut_step {N x r : Nat} (hx : x < 16) : (16 * N + x) / 16 ^ (r + 1) = N / 16 ^ r ∧ (16 * N + x) % 16 ^ (r + 1) = 16 * (N % 16 ^ r) + x := by
  have hp : 0 < 16 ^ r := Nat.pow_pos (by decide)
  have e : 16 ^ (r + 1) = 16 * 16 ^ r := by rw [Nat.pow_succ, Nat.mul_comm]
  have h1 := Nat.div_add_mod N (16 ^ r)
  have h2 := Nat.mod_lt N hp
  have key : 16 * N + x = (16 * 16 ^ r) * (N / 16 ^ r) + (16 * (N % 16 ^ r) + x) := by
    have : 16 * N = 16 * (16 ^ r * (N / 16 ^ r) + N % 16 ^ r) := by rw [h1]
    rw [this, Nat.mul_add, Nat.mul_assoc]; omega
  rw [e]
  generalize N / 16 ^ r = a at *
  generalize N % 16 ^ r = b at *
  generalize 16 ^ r = P at *
  rw [key]
  constructor
  · rw [Nat.mul_add_div (by omega), Nat.div_eq_of_lt (by omega), Nat.add_zero]
  · rw [Nat.mul_add_mod, Nat.mod_eq_of_lt (by omega)]
set_option maxRecDepth 10000 in
theorem HS_low {T k H f x bh : Nat} {m lo po : Int} (h : HS T k H f m lo po) (hx : x < 16) (hbh : bh ≤ 1) (hm : m < 2 ^ T) : HS T (k + 1) (16 * H + x) (f + bh) (16 * m + x) lo (po - 4 * bh) := by
  obtain ⟨g, h1, h2, h3, h4, h5, h6, h7, h8⟩ := h
  have hg : g = 0 := by
    rcases Nat.eq_zero_or_pos g with r | r
    · exact r
    · have := h3 r; omega
  subst hg
  rw [Nat.pow_zero, Nat.div_one] at h1
  rw [Nat.pow_zero, Nat.mod_one, if_pos rfl] at h4
  refine ⟨0, ?_, ?_, fun q => absurd q (by omega), ?_, by omega, by omega, by omega, ?_⟩
  · rw [Nat.pow_zero, Nat.div_one]; omega
  · rw [show T + 4 = T + 4 from rfl, Int.pow_add, show (2 : Int) ^ 4 = 16 from rfl]; omega
  · rw [Nat.pow_zero, Nat.mod_one, if_pos rfl]; exact h4
  · rw [Nat.pow_succ]; omega
set_option maxRecDepth 10000 in
theorem HS_high {T k H f x bh : Nat} {m lo po : Int} (h : HS T k H f m lo po) (hx : x < 16) (hbh : bh ≤ 1) (hm : 2 ^ T ≤ m) : HS T (k + 1) (16 * H + x) (f + bh) m (if lo = 0 ∧ x = 0 then 0 else 1) (po + 4 * (1 - (bh : Int))) := by
  obtain ⟨g, h1, h2, h3, h4, h5, h6, h7, h8⟩ := h
  obtain ⟨c1, c2⟩ := hcut_step (N := H) (r := g) hx
  refine ⟨g + 1, by rw [c1]; exact h1, h2, fun _ => hm, ?_, by omega, by omega, by omega, ?_⟩
  · rw [c2, h4]
    by_cases w : H % 16 ^ g = 0
    · rw [if_pos w]
      by_cases v : x = 0
      · rw [if_pos ⟨rfl, v⟩, if_pos (by omega)]
      · rw [if_neg (fun u => v u.2), if_neg (by omega)]
    · rw [if_neg w, if_neg (fun u => by omega), if_neg (by omega)]
  · rw [Nat.pow_succ]; omega
-- YR
set_option maxRecDepth 10000 in
theorem HS_m {T k H f : Nat} {m lo po : Int} (h : HS T k H f m lo po) : 0 ≤ m ∧ m < 2 ^ (T + 4) ∧ (lo = 0 ∨ lo = 1) := by
  obtain ⟨g, h1, h2, h3, h4, _⟩ := h
  refine ⟨by rw [h1]; exact Int.natCast_nonneg _, h2, ?_⟩
  rw [h4]; split
  · exact Or.inl rfl
  · exact Or.inr rfl
set_option maxRecDepth 10000 in
theorem or4 {m x : Int} (h0 : 0 ≤ m) (h1 : m < 1152921504606846976) (x0 : 0 ≤ x) (x1 : x < 16) : (iL m <<< ((4 : Int32).toInt64 &&& 63)) ||| iL x = iL (16 * m + x) := by
  rw [show (4 : Int32).toInt64 = iL 4 from rfl, show (63 : Int64) = iL 63 from rfl, l_shlI (by omega) (by omega), show (2 : Int) ^ (4 : Int).toNat = 2 ^ 4 from rfl, iL_orK 4 h0 x0 (by rw [show (2 : Int) ^ 4 = 16 from rfl]; exact x1) (by rw [show (2 : Int) ^ 4 = 16 from rfl]; omega), show (2 : Int) ^ 4 = 16 from rfl, Int.mul_comm]
set_option maxRecDepth 10000 in
theorem shr0 {m : Int} (h0 : 0 ≤ m) (h1 : m < 9223372036854775808) {T : Int} (t0 : 0 ≤ T) (t1 : T < 64) : (((iL m).toUInt64 >>> ((iL T).toUInt64 &&& Int64.toUInt64 63)).toInt64 = 0) = (m < 2 ^ T.toNat) := by
  have hd0 : 0 ≤ m / 2 ^ T.toNat := Int.ediv_nonneg h0 (Int.le_of_lt (p2_pos _))
  have hd1 : m / 2 ^ T.toNat ≤ m := Int.ediv_le_self _ h0
  rw [show (63 : Int64) = iL 63 from rfl, l_ushrI t0 t1 h0 (by omega), show (0 : Int64) = iL 0 from rfl, iL_eqU hd0 (by omega) (by omega) (by omega), div0 h0 (p2_pos _)]
set_option maxRecDepth 10000 in
theorem rh_step {n : Nat} (hn : n < 90000) {len over : Int32} {c : Nat → Int32} {E : List Int32} (h : BY n len over c E) (hE : E.length ≤ n) {z i : Nat} (hz : z ≤ E.length) (hd : 0 ≤ hv (hr E z i)) {k H f bh : Nat} (hbh : bh ≤ 1) {ma lo po : Int} (hS : HS 56 k H f ma lo po) (m : Nat) (fr : Int32) :
    ∃ ma' lo' po', HS 56 (k + 1) (16 * H + (hv (hr E z i)).toNat) (f + bh) ma' lo' po' ∧ f_Rd_readHexDigits_5 (m + 1) (iI bh) fr n (iI i) (iI z) len c (iL ma) (iI lo) (iI po) = f_Rd_readHexDigits_5 m (iI bh) fr n (iI ((i + 1 : Nat) : Int)) (iI z) len c (iL ma') (iI lo') (iI po') := by
  have hi := hv_in hd
  have hb := hr_b E z i
  have vb := hv_b (hr E z i)
  obtain ⟨m0, m1, l01⟩ := HS_m hS
  rw [show (2 : Int) ^ (56 + 4) = 1152921504606846976 from by decide] at m1
  have e1 : iI (i : Int) + 1 = iI ((i + 1 : Nat) : Int) := by rw [show (1 : Int32) = iI 1 from rfl, iI_add]; rfl
  have hb01 : bh = 0 ∨ bh = 1 := by omega
  rw [f_Rd_readHexDigits_5, if_neg (show ¬ iI (z : Int) ≤ iI i from by simp (disch := omega) only [iI_lit, iL_lit, iI_add, iI_sub, iI_mul, iI_neg, iL_add, iL_sub, iL_mul, iL_neg, iI_lt, iI_le, iI_eq, iL_lt, iL_le, iL_eqS, iI_c, iI_ok, iI_l, iL_i, iI_low, l_ushrI, l_shlI, l_shrI, i_shlI, i_shrI, i_ushrI, iI_div, iL_div, Int.toNat_natCast, Int.reduceToNat, iI_ofNat]; omega), here_spec (by omega) h hE hz (by omega), Option.bind_some, hexV_spec (by omega) (by omega), Option.bind_some, if_neg (show ¬ iI (hv (hr E z i)) < 0 from by simp (disch := omega) only [iI_lit, iL_lit, iI_add, iI_sub, iI_mul, iI_neg, iL_add, iL_sub, iL_mul, iL_neg, iI_lt, iI_le, iI_eq, iL_lt, iL_le, iL_eqS, iI_c, iI_ok, iI_l, iL_i, iI_low, l_ushrI, l_shlI, l_shrI, i_shlI, i_shrI, i_ushrI, iI_div, iL_div, Int.toNat_natCast, Int.reduceToNat, iI_ofNat]; omega), Option.bind_some, hexV_spec (by omega) (by omega), Option.bind_some]
  rw [show (56 : Int32).toInt64 = iL 56 from rfl]
  simp only [shr0 m0 (by omega) (show (0 : Int) ≤ 56 by omega) (show (56 : Int) < 64 by omega)]
  unfold f_Rd_readHexDigits_73 f_Rd_readHexDigits_92 f_Rd_readHexDigits_97 f_Rd_readHexDigits_114 f_Rd_readHexDigits_118
  rw [e1, iI_l (by omega) (by omega), or4 m0 m1 hd (by omega)]
  obtain ⟨x, hx⟩ : ∃ x : Nat, hv (hr E z i) = (x : Int) := ⟨(hv (hr E z i)).toNat, by omega⟩
  rw [hx, Int.toNat_natCast]
  have hx16 : x < 16 := by omega
  rw [show (2 : Int) ^ (56 : Int).toNat = 2 ^ 56 from rfl]
  by_cases w : ma < 2 ^ 56
  · rw [if_pos w]
    have hL := HS_low hS hx16 hbh w
    refine ⟨_, _, _, hL, ?_⟩
    rcases hb01 with rfl | rfl
    · rw [if_pos (show iI ((0 : Nat) : Int) = 0 from rfl), show (0 : Int32) = iI 0 from rfl, iI_sub]; rfl
    · rw [if_neg (show ¬ iI ((1 : Nat) : Int) = 0 from by decide), show (4 : Int32) = iI 4 from rfl, iI_sub]; rfl
  · rw [if_neg w]
    have hH := HS_high hS hx16 hbh (by omega)
    refine ⟨_, _, _, hH, ?_⟩
    have g0 : gx_bo (0 : Int32) = true := by decide
    have g1 : gx_bo (1 : Int32) = true := by decide
    rw [if_pos g0, if_pos g1]
    have ep : ∀ t0 : Int, t0 = 4 * (1 - (bh : Int)) → iI po + iI t0 = iI (po + 4 * (1 - (bh : Int))) := fun t0 ht => by rw [iI_add, ht]
    have body : ∀ lo' : Int32, (if iI (bh : Int) = 0 then f_Rd_readHexDigits_5 m (iI bh) fr n (iI ((i + 1 : Nat) : Int)) (iI z) len c (iL ma) lo' (iI po + (4 : Int32)) else f_Rd_readHexDigits_5 m (iI bh) fr n (iI ((i + 1 : Nat) : Int)) (iI z) len c (iL ma) lo' (iI po + (0 : Int32))) = f_Rd_readHexDigits_5 m (iI bh) fr n (iI ((i + 1 : Nat) : Int)) (iI z) len c (iL ma) lo' (iI (po + 4 * (1 - (bh : Int)))) := by
      intro lo'
      rcases hb01 with rfl | rfl
      · rw [if_pos (show iI ((0 : Nat) : Int) = 0 from rfl), show (4 : Int32) = iI 4 from rfl, ep 4 (by omega)]
      · rw [if_neg (show ¬ iI ((1 : Nat) : Int) = 0 from by decide), show (0 : Int32) = iI 0 from rfl, ep 0 (by omega)]
    rw [body, body]
    rcases l01 with rfl | rfl
    · rw [if_pos (show iI 0 = 0 from rfl)]
      by_cases v : x = 0
      · subst v
        rw [if_pos (show iI ((0 : Nat) : Int) = 0 from rfl), if_pos ⟨rfl, rfl⟩]; rfl
      · rw [if_neg (show ¬ iI (x : Int) = 0 from by simp (disch := omega) only [iI_lit, iL_lit, iI_add, iI_sub, iI_mul, iI_neg, iL_add, iL_sub, iL_mul, iL_neg, iI_lt, iI_le, iI_eq, iL_lt, iL_le, iL_eqS, iI_c, iI_ok, iI_l, iL_i, iI_low, l_ushrI, l_shlI, l_shrI, i_shlI, i_shrI, i_ushrI, iI_div, iL_div, Int.toNat_natCast, Int.reduceToNat, iI_ofNat]; omega), if_neg (fun u => v u.2)]; rfl
    · rw [if_neg (show ¬ iI 1 = 0 from by decide), if_neg (fun u => absurd u.1 (by decide))]; rfl
set_option maxRecDepth 10000 in
theorem rh_loop {n : Nat} (hn : n < 90000) {len over : Int32} {c : Nat → Int32} {E : List Int32} (h : BY n len over c E) (hE : E.length ≤ n) {z : Nat} (hz : z ≤ E.length) {bh : Nat} (hbh : bh ≤ 1) (fr : Int) :
    ∀ (d i m H f k : Nat) (ma lo po : Int), i + d = z → d < m → k ≤ i → HS 56 k H f ma lo po →
    ∃ ma' lo' po', HS 56 (hRun E z d H i).2 (hRun E z d H i).1 (f + bh * ((hRun E z d H i).2 - i)) ma' lo' po' ∧ f_Rd_readHexDigits_5 m (iI bh) (iI fr) n (iI i) (iI z) len c (iL ma) (iI lo) (iI po) = some (iI (((hRun E z d H i).2 : Int) - fr), iI (hRun E z d H i).2, iL ma', iI lo', iI po')
  | 0, i, m + 1, H, f, k, ma, lo, po, hi, hm, hk, hS => by
    rw [f_Rd_readHexDigits_5, if_pos (show iI (z : Int) ≤ iI i from by simp (disch := omega) only [iI_lit, iL_lit, iI_add, iI_sub, iI_mul, iI_neg, iL_add, iL_sub, iL_mul, iL_neg, iI_lt, iI_le, iI_eq, iL_lt, iL_le, iL_eqS, iI_c, iI_ok, iI_l, iL_i, iI_low, l_ushrI, l_shlI, l_shrI, i_shlI, i_shrI, i_ushrI, iI_div, iL_div, Int.toNat_natCast, Int.reduceToNat, iI_ofNat]; omega)]
    unfold f_Rd_readHexDigits_131
    rw [iI_sub]
    refine ⟨ma, lo, po, ?_, rfl⟩
    show HS 56 i H (f + bh * (i - i)) ma lo po
    rw [Nat.sub_self, Nat.mul_zero, Nat.add_zero]
    obtain ⟨g, h1, h2, h3, h4, h5, h6, h7, h8⟩ := hS
    exact ⟨g, h1, h2, h3, h4, h5, by omega, by omega, Nat.lt_of_lt_of_le h8 (Nat.pow_le_pow_right (by decide) hk)⟩
  | d + 1, i, m + 1, H, f, k, ma, lo, po, hi, hm, hk, hS => by
    by_cases q : 0 ≤ hv (hr E z i)
    · obtain ⟨ma1, lo1, po1, hS1, e1⟩ := rh_step hn h hE hz q hbh hS m (iI fr)
      obtain ⟨ma2, lo2, po2, hS2, e2⟩ := rh_loop hn h hE hz hbh fr d (i + 1) m _ _ (k + 1) ma1 lo1 po1 (by omega) (by omega) (by omega) hS1
      have eD : hRun E z (d + 1) H i = hRun E z d (16 * H + (hv (hr E z i)).toNat) (i + 1) := by
        show (if 0 ≤ hv (hr E z i) then _ else _) = _
        rw [if_pos q]
      rw [eD]
      have hb := hRun_b E z d (16 * H + (hv (hr E z i)).toNat) (i + 1)
      generalize hRun E z d (16 * H + (hv (hr E z i)).toNat) (i + 1) = R at *
      refine ⟨ma2, lo2, po2, ?_, by rw [e1, e2]⟩
      rw [show f + bh * (R.2 - i) = f + bh + bh * (R.2 - (i + 1)) by
        rw [show R.2 - i = (R.2 - (i + 1)) + 1 by omega, Nat.mul_add]; omega]
      exact hS2
    · have eD : hRun E z (d + 1) H i = (H, i) := by
        show (if 0 ≤ hv (hr E z i) then _ else _) = _
        rw [if_neg q]
      have hb := hr_b E z i
      have vb := hv_b (hr E z i)
      rw [eD, f_Rd_readHexDigits_5, if_neg (show ¬ iI (z : Int) ≤ iI i from by simp (disch := omega) only [iI_lit, iL_lit, iI_add, iI_sub, iI_mul, iI_neg, iL_add, iL_sub, iL_mul, iL_neg, iI_lt, iI_le, iI_eq, iL_lt, iL_le, iL_eqS, iI_c, iI_ok, iI_l, iL_i, iI_low, l_ushrI, l_shlI, l_shrI, i_shlI, i_shrI, i_ushrI, iI_div, iL_div, Int.toNat_natCast, Int.reduceToNat, iI_ofNat]; omega), here_spec (by omega) h hE hz (by omega), Option.bind_some, hexV_spec (by omega) (by omega), Option.bind_some, if_pos (show iI (hv (hr E z i)) < 0 from by simp (disch := omega) only [iI_lit, iL_lit, iI_add, iI_sub, iI_mul, iI_neg, iL_add, iL_sub, iL_mul, iL_neg, iI_lt, iI_le, iI_eq, iL_lt, iL_le, iL_eqS, iI_c, iI_ok, iI_l, iL_i, iI_low, l_ushrI, l_shlI, l_shrI, i_shlI, i_shrI, i_ushrI, iI_div, iL_div, Int.toNat_natCast, Int.reduceToNat, iI_ofNat]; omega)]
      unfold f_Rd_readHexDigits_131
      rw [iI_sub]
      refine ⟨ma, lo, po, ?_, rfl⟩
      show HS 56 i H (f + bh * (i - i)) ma lo po
      rw [Nat.sub_self, Nat.mul_zero, Nat.add_zero]
      obtain ⟨g, h1, h2, h3, h4, h5, h6, h7, h8⟩ := hS
      exact ⟨g, h1, h2, h3, h4, h5, by omega, by omega, Nat.lt_of_lt_of_le h8 (Nat.pow_le_pow_right (by decide) hk)⟩
-- YS
set_option maxRecDepth 10000 in
def qI (E : List Int32) (z i : Nat) : Nat × Nat := hRun E z (z - i) 0 i
set_option maxRecDepth 10000 in
abbrev qDot (E : List Int32) (z i : Nat) : Prop := hr E z (qI E z i).2 = 46
set_option maxRecDepth 10000 in
def qF (E : List Int32) (z i : Nat) : Nat × Nat := hRun E z (z - ((qI E z i).2 + 1)) (qI E z i).1 ((qI E z i).2 + 1)
set_option maxRecDepth 10000 in
def qN (E : List Int32) (z i : Nat) : Nat := if qDot E z i then (qF E z i).1 else (qI E z i).1
set_option maxRecDepth 10000 in
def qE (E : List Int32) (z i : Nat) : Nat := if qDot E z i then (qF E z i).2 else (qI E z i).2
set_option maxRecDepth 10000 in
def qf (E : List Int32) (z i : Nat) : Nat := if qDot E z i then (qF E z i).2 - ((qI E z i).2 + 1) else 0
set_option maxRecDepth 10000 in
def qA (E : List Int32) (z i : Nat) : Nat := (qI E z i).2 - i + qf E z i
set_option maxRecDepth 10000 in
theorem q_b {E : List Int32} {z i : Nat} (hi : i ≤ z) : i ≤ (qI E z i).2 ∧ (qI E z i).2 ≤ qE E z i ∧ qE E z i ≤ z ∧ qf E z i ≤ qE E z i ∧ (qDot E z i → (qI E z i).2 < z ∧ (qI E z i).2 + 1 ≤ (qF E z i).2 ∧ (qF E z i).2 ≤ z) := by
  have b1 := hRun_b E z (z - i) 0 i
  have b2 := hRun_b E z (z - ((qI E z i).2 + 1)) (qI E z i).1 ((qI E z i).2 + 1)
  have hI : qI E z i = hRun E z (z - i) 0 i := rfl
  rw [← hI] at b1
  have hF : qF E z i = hRun E z (z - ((qI E z i).2 + 1)) (qI E z i).1 ((qI E z i).2 + 1) := rfl
  rw [← hF] at b2
  unfold qE qf
  by_cases q : qDot E z i
  · have hl := hr_in (E := E) (z := z) (i := (qI E z i).2) (by unfold qDot at q; omega)
    rw [if_pos q, if_pos q]
    exact ⟨by omega, by omega, by omega, by omega, fun _ => by omega⟩
  · rw [if_neg q, if_neg q]
    exact ⟨by omega, by omega, by omega, by omega, fun w => absurd w q⟩
set_option maxRecDepth 10000 in
abbrev qX (E : List Int32) (z i : Nat) : Prop := hr E z (qE E z i) = 112 ∨ hr E z (qE E z i) = 80
set_option maxRecDepth 10000 in
abbrev qOK (E : List Int32) (z i : Nat) : Prop := qA E z i ≠ 0 ∧ qX E z i ∧ xBeg E z (qE E z i + 1) < xEnd E z (qE E z i + 1)
set_option maxRecDepth 10000 in
def qZ (E : List Int32) (z i : Nat) : Nat := xEnd E z (qE E z i + 1)
set_option maxRecDepth 10000 in
theorem qX_in {E : List Int32} {z i : Nat} (h : qX E z i) : qE E z i < z := hr_in (E := E) (by unfold qX at h; omega)
set_option maxRecDepth 10000 in
theorem rh33 {n : Nat} (hn : n < 90000) {len over : Int32} {c : Nat → Int32} {E : List Int32} (h : BY n len over c E) (hE : E.length ≤ n) {z i : Nat} (hz : z ≤ E.length) (hi : i ≤ z) (ma : Int64) (lo po : Int32) :
    ∃ at' : Nat, ∃ ex : Int, f_Rd_readHexadecimal_33 (iI (qA E z i)) n (iI (qE E z i)) (iI z) len c ma lo po (iI 0) = some (iI (if qOK E z i then 1 else 0), iI at', ma, lo, po, iI ex) ∧ at' ≤ z ∧ (qOK E z i → at' = qZ E z i ∧ ex = xC E z (qE E z i + 1)) := by
  obtain ⟨b1, b2, b3, b4, b5⟩ := q_b (E := E) hi
  unfold f_Rd_readHexadecimal_33
  have hA : qA E z i ≤ 200000 := by unfold qA; omega
  by_cases q : qA E z i = 0
  · rw [if_pos (show iI (qA E z i : Int) ≤ 0 from by rw [q]; decide), if_neg (fun w => absurd q w.1)]
    exact ⟨qE E z i, 0, rfl, b3, fun w => absurd q w.1⟩
  · rw [if_neg (show ¬ iI (qA E z i : Int) ≤ 0 from by simp (disch := omega) only [iI_lit, iL_lit, iI_add, iI_sub, iI_mul, iI_neg, iL_add, iL_sub, iL_mul, iL_neg, iI_lt, iI_le, iI_eq, iL_lt, iL_le, iL_eqS, iI_c, iI_ok, iI_l, iL_i, iI_low, l_ushrI, l_shlI, l_shrI, i_shlI, i_shrI, i_ushrI, iI_div, iL_div, Int.toNat_natCast, Int.reduceToNat, iI_ofNat]; omega)]
    rw [show (112 : Int32) = iI 112 from rfl, show (80 : Int32) = iI 80 from rfl, sees_spec (by omega) h hE hz (by omega) (by omega) (by omega), Option.bind_some, sees_spec (by omega) h hE hz (by omega) (by omega) (by omega), Option.bind_some]
    have h55 : qX E z i → ∃ at' : Nat, ∃ ex : Int, f_Rd_readHexadecimal_55 n (iI (qE E z i)) (iI z) len c ma lo po (iI 0) = some (iI (if qOK E z i then 1 else 0), iI at', ma, lo, po, iI ex) ∧ at' ≤ z ∧ (qOK E z i → at' = qZ E z i ∧ ex = xC E z (qE E z i + 1)) := by
      intro w
      have hl := qX_in w
      have hy := xEnd_b (E := E) (show qE E z i + 1 ≤ z by omega)
      unfold f_Rd_readHexadecimal_55 f_Rd_readHexadecimal_66
      rw [readExponent_spec hn h hE hz hl, Option.bind_some]
      by_cases v : xBeg E z (qE E z i + 1) < xEnd E z (qE E z i + 1)
      · rw [if_pos v, if_neg (show ¬ iI 1 = 0 from by decide), if_pos (show qOK E z i from ⟨q, w, v⟩)]
        exact ⟨_, _, rfl, by omega, fun _ => ⟨rfl, rfl⟩⟩
      · rw [if_neg v, if_pos (show iI 0 = 0 from rfl), if_neg (fun ww => absurd ww.2.2 v)]
        exact ⟨_, _, rfl, by omega, fun ww => absurd ww.2.2 v⟩
    by_cases w1 : hr E z (qE E z i) = 112
    · rw [if_pos w1, if_neg (show ¬ iI 1 = 0 from by decide)]
      exact h55 (Or.inl w1)
    · rw [if_neg w1, if_pos (show iI 0 = 0 from rfl)]
      by_cases w2 : hr E z (qE E z i) = 80
      · rw [if_pos w2, if_neg (show ¬ iI 1 = 0 from by decide)]
        exact h55 (Or.inr w2)
      · rw [if_neg w2, if_pos (show iI 0 = 0 from rfl)]
        have nx : ¬ qX E z i := fun w => by rcases w with w | w; exact w1 w; exact w2 w
        unfold f_Rd_readHexadecimal_66
        rw [if_neg (fun w => nx w.2.1)]
        exact ⟨_, _, rfl, b3, fun w => absurd w.2.1 nx⟩
set_option maxRecDepth 10000 in
theorem rhex_spec {n : Nat} (hn : n < 90000) {len over : Int32} {c : Nat → Int32} {E : List Int32} (h : BY n len over c E) (hE : E.length ≤ n) {z i : Nat} (hz : z ≤ E.length) (hi : i ≤ z) :
    ∃ at' : Nat, ∃ ex ma lo po : Int, f_Rd_readHexadecimal n (iI i) (iI z) len c (iL 0) (iI 0) (iI 0) (iI 0) = some (iI (if qOK E z i then 1 else 0), iI at', iL ma, iI lo, iI po, iI ex) ∧ at' ≤ z ∧ HS 56 (qE E z i) (qN E z i) (qf E z i) ma lo po ∧ (qOK E z i → at' = qZ E z i ∧ ex = xC E z (qE E z i + 1)) := by
  obtain ⟨b1, b2, b3, b4, b5⟩ := q_b (E := E) hi
  have hfu := fu_pos
  unfold f_Rd_readHexadecimal
  have hS0 : HS 56 0 0 0 0 0 0 := ⟨0, rfl, by decide, fun q => absurd q (by omega), by decide, by decide, by omega, by omega, by decide⟩
  obtain ⟨ma1, lo1, po1, hS1, e1⟩ := rh_loop hn h hE hz (bh := 0) (by omega) i (z - i) i gx_fu 0 0 0 0 0 0 (by omega) (by omega) (by omega) hS0
  have eI : hRun E z (z - i) 0 i = qI E z i := rfl
  rw [eI] at hS1 e1
  rw [Nat.zero_mul, Nat.zero_add] at hS1
  have e1' : f_Rd_readHexDigits (0 : Int32) n (iI i) (iI z) len c (iL 0) (iI 0) (iI 0) = some (iI (((qI E z i).2 : Int) - i), iI (qI E z i).2, iL ma1, iI lo1, iI po1) := e1
  rw [e1', Option.bind_some]
  dsimp only
  rw [show (46 : Int32) = iI 46 from rfl, sees_spec (by omega) h hE hz (by omega) (by omega) (by omega), Option.bind_some]
  by_cases q : qDot E z i
  · obtain ⟨c1, c2, c3⟩ := b5 q
    have q' : hr E z (qI E z i).2 = 46 := q
    rw [if_pos q', if_neg (show ¬ iI 1 = 0 from by decide)]
    rw [show iI ((qI E z i).2 : Int) + 1 = iI (((qI E z i).2 + 1 : Nat) : Int) from by rw [show (1 : Int32) = iI 1 from rfl, iI_add]; rfl]
    obtain ⟨ma2, lo2, po2, hS2, e2⟩ := rh_loop hn h hE hz (bh := 1) (by omega) (((qI E z i).2 + 1 : Nat) : Int) (z - ((qI E z i).2 + 1)) ((qI E z i).2 + 1) gx_fu (qI E z i).1 0 (qI E z i).2 ma1 lo1 po1 (by omega) (by omega) (by omega) hS1
    have eF : hRun E z (z - ((qI E z i).2 + 1)) (qI E z i).1 ((qI E z i).2 + 1) = qF E z i := rfl
    rw [eF] at hS2 e2
    have eN : qN E z i = (qF E z i).1 := if_pos q
    have eE : qE E z i = (qF E z i).2 := if_pos q
    have ef : qf E z i = (qF E z i).2 - ((qI E z i).2 + 1) := if_pos q
    rw [Nat.one_mul, Nat.zero_add, ← ef, ← eN, ← eE] at hS2
    have e2' : f_Rd_readHexDigits (1 : Int32) n (iI (((qI E z i).2 + 1 : Nat) : Int)) (iI z) len c (iL ma1) (iI lo1) (iI po1) = some (iI (((qF E z i).2 : Int) - ((qI E z i).2 + 1 : Nat)), iI (qF E z i).2, iL ma2, iI lo2, iI po2) := e2
    rw [e2', Option.bind_some]
    dsimp only
    rw [iI_add]
    have eA : ((qI E z i).2 : Int) - i + (((qF E z i).2 : Int) - ((qI E z i).2 + 1 : Nat)) = (qA E z i : Int) := by unfold qA; rw [ef]; omega
    rw [eA, ← eE]
    obtain ⟨at', ex, e3, g1, g2⟩ := rh33 hn h hE hz hi (iL ma2) (iI lo2) (iI po2)
    exact ⟨at', ex, ma2, lo2, po2, e3, g1, hS2, g2⟩
  · have q' : ¬ hr E z (qI E z i).2 = 46 := q
    rw [if_neg q', if_pos (show iI 0 = 0 from rfl)]
    have eN : qN E z i = (qI E z i).1 := if_neg q
    have eE : qE E z i = (qI E z i).2 := if_neg q
    have ef : qf E z i = 0 := if_neg q
    rw [← eN, ← ef, ← eE] at hS1
    have eA : ((qI E z i).2 : Int) - i = (qA E z i : Int) := by unfold qA; rw [ef]; omega
    rw [eA, ← eE]
    obtain ⟨at', ex, e3, g1, g2⟩ := rh33 hn h hE hz hi (iL ma1) (iI lo1) (iI po1)
    exact ⟨at', ex, ma1, lo1, po1, e3, g1, hS1, g2⟩
set_option maxRecDepth 10000 in
def HX (s H : Nat) (e r : Int) : Prop := NE s ((H : Int) * 2 ^ (e - szL s).toNat) (2 ^ (szL s - e).toNat) r
set_option maxRecDepth 10000 in
theorem HX_hi {s H : Nat} (hs : s < 2) (hH : 0 < H) {e r : Int} (he : 2000 ≤ e) (h : HX s H e r) : r = (2 ^ szK s - 1) * 2 ^ (szD s - 1) := by
  refine NE_uniq hs (p2_pos _) h (NE_inf hs (p2_pos _) ?_)
  have zp := sz_p hs
  have gl := szGL hs
  have hG : szG s ≤ 971 ∧ szD s ≤ 53 := by rcases sz_cases hs with h | h <;> omega
  rw [inf_val hs, show (szL s - e).toNat = 0 by omega, Int.pow_zero, Int.mul_one, p2_add]
  have a1 : (2 : Int) ^ (szD s - 1 + (szG s + 1 - szL s).toNat) ≤ 2 ^ (e - szL s).toNat := p2_mono (by omega)
  have a2 := Int.mul_le_mul_of_nonneg_right (show (1 : Int) ≤ H by omega) (show (0 : Int) ≤ 2 ^ (e - szL s).toNat from Int.le_of_lt (p2_pos _))
  rw [Int.one_mul] at a2
  exact Int.le_trans a1 a2
set_option maxRecDepth 10000 in
theorem HX_lo {s H k : Nat} (hs : s < 2) {e r : Int} (hk : H < 16 ^ k) (he : e ≤ -2000 - 4 * (k : Int)) (h : HX s H e r) : r = 0 := by
  have zp := sz_p hs
  refine NE_uniq hs (p2_pos _) h (NE_zero hs (p2_pos _) (Int.mul_nonneg (by omega) (Int.le_of_lt (p2_pos _))) ?_)
  rw [show (e - szL s).toNat = 0 by omega, Int.pow_zero, Int.mul_one]
  have a1 : (H : Int) < ((16 ^ k : Nat) : Int) := Int.ofNat_lt.mpr hk
  have a2 : ((16 ^ k : Nat) : Int) = 2 ^ (4 * k) := by rw [Int.natCast_pow, Int.pow_mul]; rfl
  have a3 : (2 : Int) ^ (4 * k + 1) ≤ 2 ^ (szL s - e).toNat := p2_mono (by omega)
  rw [Int.pow_succ] at a3
  omega
