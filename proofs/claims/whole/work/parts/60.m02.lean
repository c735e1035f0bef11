-- B
set_option maxRecDepth 10000 in
theorem fu_pos : 100000 ≤ gx_fu := by decide +kernel
set_option maxRecDepth 10000 in
theorem upd_s (f : Nat → Int32) (k : Nat) (x : Int32) : upd f k x k = x := if_pos rfl
set_option maxRecDepth 10000 in
theorem upd_n {f : Nat → Int32} {k j : Nat} {x : Int32} (h : j ≠ k) : upd f k x j = f j := if_neg h
set_option maxRecDepth 10000 in
def bv (c : Nat → Int32) : Nat → Int
  | 0 => 0
  | n + 1 => bv c n + u3 (c n) * 2 ^ (32 * n)
set_option maxRecDepth 10000 in
theorem p2_pos (n : Nat) : (0 : Int) < 2 ^ n := Int.pow_pos (by decide)
set_option maxRecDepth 10000 in
theorem pw32 (n : Nat) : (2 : Int) ^ (32 * (n + 1)) = 4294967296 * 2 ^ (32 * n) := by rw [Nat.mul_add, Int.pow_add]; omega
set_option maxRecDepth 10000 in
theorem bv_nn (c : Nat → Int32) : ∀ n, 0 ≤ bv c n
  | 0 => by simp [bv]
  | n + 1 => Int.add_nonneg (bv_nn c n) (Int.mul_nonneg (u3_0 _) (Int.le_of_lt (p2_pos _)))
set_option maxRecDepth 10000 in
theorem bv_lt (c : Nat → Int32) : ∀ n, bv c n < 2 ^ (32 * n)
  | 0 => by simp [bv]
  | n + 1 => by
    have h := bv_lt c n
    have h2 := u3_l (c n)
    rw [pw32, bv]
    have : u3 (c n) * 2 ^ (32 * n) ≤ 4294967295 * 2 ^ (32 * n) := Int.mul_le_mul_of_nonneg_right (by omega) (Int.le_of_lt (p2_pos _))
    omega
set_option maxRecDepth 10000 in
theorem bv_congr {c d : Nat → Int32} : ∀ {n : Nat}, (∀ i, i < n → c i = d i) → bv c n = bv d n
  | 0, _ => rfl
  | n + 1, h => by rw [bv, bv, bv_congr (fun i hi => h i (by omega)), h n (by omega)]
set_option maxRecDepth 10000 in
theorem bv_upd {c : Nat → Int32} {k n : Nat} {x : Int32} (h : n ≤ k) : bv (upd c k x) n = bv c n := bv_congr (fun i hi => upd_n (by omega))
set_option maxRecDepth 10000 in
theorem bv_digit (c : Nat → Int32) : ∀ n i, i < n → bv c n / 2 ^ (32 * i) % 4294967296 = u3 (c i)
  | n + 1, i, h => by
    rw [bv]
    by_cases hi : i = n
    · subst hi
      rw [Int.add_mul_ediv_right _ _ (by have := p2_pos (32 * i); omega), Int.ediv_eq_zero_of_lt (bv_nn c i) (bv_lt c i), Int.zero_add, Int.emod_eq_of_lt (u3_0 _) (u3_l _)]
    · have e : (2 : Int) ^ (32 * n) = (4294967296 * 2 ^ (32 * (n - i - 1))) * 2 ^ (32 * i) := by
        rw [show 32 * n = (32 + 32 * (n - i - 1)) + 32 * i by omega, Int.pow_add, Int.pow_add]; rfl
      have e2 : u3 (c n) * 2 ^ (32 * n) = (4294967296 * (u3 (c n) * 2 ^ (32 * (n - i - 1)))) * 2 ^ (32 * i) := by
        rw [e]; grind
      rw [e2, Int.add_mul_ediv_right _ _ (by have := p2_pos (32 * i); omega), Int.add_mul_emod_self_left]
      exact bv_digit c n i (by omega)
set_option maxRecDepth 10000 in
theorem bv_of_digits {c : Nat → Int32} {M : Int} : ∀ {n : Nat}, (∀ i, i < n → u3 (c i) = M / 2 ^ (32 * i) % 4294967296) → bv c n = M % 2 ^ (32 * n)
  | 0, _ => by simp [bv, Int.emod_one]
  | n + 1, h => by
    rw [bv, bv_of_digits (fun i hi => h i (by omega)), h n (by omega), pw32]
    have hp := p2_pos (32 * n)
    generalize (2 : Int) ^ (32 * n) = P at *
    have e1 := Int.mul_ediv_add_emod M P
    have e2 := Int.mul_ediv_add_emod (M / P) 4294967296
    have e3 := Int.mul_ediv_add_emod M (4294967296 * P)
    have e4 : M / (4294967296 * P) = M / P / 4294967296 := by rw [Int.mul_comm, Int.ediv_ediv_of_nonneg (by omega)]
    rw [e4] at e3
    grind
set_option maxRecDepth 10000 in
def BR (sz : Int32) (c : Nat → Int32) (N : Int) : Prop := ∃ s : Nat, sz = iI s ∧ s ≤ 96 ∧ (0 < s → c (s - 1) ≠ 0) ∧ bv c s = N
set_option maxRecDepth 10000 in
theorem BR_nn {sz : Int32} {c : Nat → Int32} {N : Int} (h : BR sz c N) : 0 ≤ N := by obtain ⟨s, _, _, _, rfl⟩ := h; exact bv_nn _ _
set_option maxRecDepth 10000 in
theorem bv_top {c : Nat → Int32} {s : Nat} (hs : 0 < s) (h : c (s - 1) ≠ 0) : 2 ^ (32 * (s - 1)) ≤ bv c s := by
  obtain ⟨t, rfl⟩ : ∃ t, s = t + 1 := ⟨s - 1, by omega⟩
  rw [Nat.add_sub_cancel] at h ⊢
  rw [bv]
  have h0 := u3_0 (c t)
  have : 1 ≤ u3 (c t) := by
    rcases Decidable.em (u3 (c t) = 0) with q | q
    · exact absurd (u3_eq0.mpr q) h
    · omega
  have := Int.mul_le_mul_of_nonneg_right this (Int.le_of_lt (p2_pos (32 * t)))
  have := bv_nn c t
  omega
set_option maxRecDepth 10000 in
theorem limb_spec {c : Nat → Int32} {s : Nat} (hs : s ≤ 96) {i : Int} (h1 : -2147483648 ≤ i) (h2 : i < 2147483648) : f_Bg_limb (iI i) (iI s) c = some (iL (if 0 ≤ i ∧ i < s then u3 (c i.toNat) else 0)) := by
  unfold f_Bg_limb f_Bg_limb_26
  simp (disch := omega) only [iI_lit, iL_lit, iI_lt, iI_le, iI_ok, iI_c, iI_low]
  by_cases h : 0 ≤ i ∧ i < s
  · rw [if_pos h, if_neg (by omega), if_neg (by omega), if_pos (by omega)]
  · rw [if_neg h]
    by_cases h0 : i < 0
    · rw [if_pos h0]
    · rw [if_neg h0, if_pos (by omega)]
set_option maxRecDepth 10000 in
theorem limb_of {c : Nat → Int32} {s : Nat} {i : Int} : 0 ≤ i → (if 0 ≤ i ∧ i < s then u3 (c i.toNat) else 0) = bv c s / 2 ^ (32 * i.toNat) % 4294967296 := by
  intro h
  by_cases h2 : i < s
  · rw [if_pos ⟨h, h2⟩, bv_digit c s i.toNat (by omega)]
  · rw [if_neg (by omega), Int.ediv_eq_zero_of_lt (bv_nn c s)]
    · rfl
    · refine Int.lt_of_lt_of_le (bv_lt c s) ?_
      rw [show 32 * i.toNat = 32 * s + 32 * (i.toNat - s) by omega, Int.pow_add]
      have := p2_pos (32 * s)
      have := p2_pos (32 * (i.toNat - s))
      have := Int.mul_le_mul_of_nonneg_left (show (1 : Int) ≤ 2 ^ (32 * (i.toNat - s)) by omega) (show (0 : Int) ≤ 2 ^ (32 * s) by omega)
      omega
set_option maxRecDepth 10000 in
theorem isZero_spec {sz : Int32} {c : Nat → Int32} {N : Int} (h : BR sz c N) : f_Bg_isZero sz = some (iI (if N = 0 then 1 else 0)) := by
  obtain ⟨s, rfl, hs, htop, rfl⟩ := h
  unfold f_Bg_isZero
  simp (disch := omega) only [iI_lit, iI_eq]
  by_cases h0 : s = 0
  · subst h0; simp [bv]
  · have h1 := bv_top (by omega) (htop (by omega))
    have := p2_pos (32 * (s - 1))
    rw [if_neg (by omega), if_neg (by omega)]
set_option maxRecDepth 10000 in
theorem trim_loop {c : Nat → Int32} : ∀ (s n : Nat), s ≤ 96 → s < n → ∃ t : Nat, t ≤ s ∧ f_Bg_trim_5 n (iI s) (iI s) c = some (iI t) ∧ (0 < t → c (t - 1) ≠ 0) ∧ bv c t = bv c s
  | 0, n + 1, _, _ => ⟨0, Nat.le_refl _, by rw [f_Bg_trim_5, if_pos (by decide)], fun h => absurd h (by omega), rfl⟩
  | s + 1, n + 1, hs, hn => by
    unfold f_Bg_trim_5
    simp (disch := omega) only [iI_lit, iI_sub, iI_add, iI_neg, iI_lt, iI_le, iI_ok, iI_c]
    rw [if_neg (by omega), if_pos (by omega)]
    simp only [show (((s + 1 : Nat) : Int) - 1) = (s : Int) by omega, show (((s + 1 : Nat) : Int) + -1) = (s : Int) by omega, Int.toNat_natCast]
    by_cases h : c s = iI 0
    · rw [if_pos h]
      obtain ⟨t, h1, h2, h3, h4⟩ := trim_loop s n (by omega) (by omega)
      refine ⟨t, by omega, h2, h3, ?_⟩
      rw [h4, bv, h, u3_i (by decide) (by decide)]; omega
    · rw [if_neg h]
      exact ⟨s + 1, Nat.le_refl _, rfl, fun _ => h, rfl⟩
set_option maxRecDepth 10000 in
theorem trim_spec {c : Nat → Int32} {s : Nat} (hs : s ≤ 96) : ∃ t : Nat, t ≤ s ∧ f_Bg_trim (iI s) c = some (iI t) ∧ (0 < t → c (t - 1) ≠ 0) ∧ bv c t = bv c s := trim_loop s gx_fu hs (by have := fu_pos; omega)
set_option maxRecDepth 10000 in
theorem trim_BR {c : Nat → Int32} {s : Nat} (hs : s ≤ 96) : ∃ sz, f_Bg_trim (iI s) c = some sz ∧ BR sz c (bv c s) := by
  obtain ⟨t, h1, h2, h3, h4⟩ := trim_spec (c := c) hs
  exact ⟨iI t, h2, t, rfl, by omega, h3, h4⟩
set_option maxRecDepth 10000 in
theorem set_spec {v : Int} (h0 : 0 ≤ v) (hv : v < 18446744073709551616) (sz : Int32) (c : Nat → Int32) : ∃ sz' c', f_Bg_set (iL v) sz c = some (sz', c') ∧ BR sz' c' v := by
  unfold f_Bg_set
  simp (disch := omega) only [iI_lit, iL_lit, iI_add, iI_sub, iI_mul, iI_neg, iL_add, iL_sub, iL_mul, iL_neg, iI_lt, iI_le, iI_eq, iL_lt, iL_le, iL_eqS, iI_c, iI_ok, iI_l, iL_i, iI_low, l_ushrI, l_shlI, l_shrI, i_shlI, i_shrI, i_ushrI, iI_div, iL_div, Int.toNat_natCast, Int.reduceToNat, iI_ofNat]
  rw [if_pos (by decide), if_pos (by decide)]
  generalize hd : upd (upd c 0 (iI v)) 1 (iI (v / 2 ^ 32)) = d
  obtain ⟨s, h1, h2⟩ := trim_BR (c := d) (s := 2) (by omega)
  rw [show (iI 2) = iI (2 : Nat) from rfl, h1]
  refine ⟨s, d, rfl, ?_⟩
  have : bv d 2 = v := by
    rw [bv, bv, bv, ← hd, upd_s, upd_n (by omega), upd_s, u3_m, u3_m]
    simp only [Nat.mul_zero, Int.pow_zero, Int.mul_one]
    omega
  rw [← this]
  exact h2
set_option maxRecDepth 10000 in
theorem tp_loop {k a : Int} {s : Nat} (hk0 : 0 ≤ k) (hk : k < 2147483648) (c0 : Nat → Int32) (hs : s ≤ 96) : ∀ (d i n : Nat) (c : Nat → Int32) (cy : Int), i + d = s → d < n → 0 ≤ cy → cy < 4294967296 → (∀ j, i ≤ j → c j = c0 j) → bv c i + cy * 2 ^ (32 * i) = bv c0 i * k + a →
    ∃ c1 cy1, 0 ≤ cy1 ∧ cy1 < 4294967296 ∧ bv c1 s + cy1 * 2 ^ (32 * s) = bv c0 s * k + a ∧ (∀ j, s ≤ j → c1 j = c0 j) ∧ f_Bg_timesPlus_6 n (iI k) (iL cy) (iI i) (iI s) c = (if cy1 = 0 then some (iI s, c1) else if 96 ≤ s then some (iI s, c1) else some (iI (s + 1), upd c1 s (iI cy1)))
  | 0, i, n + 1, c, cy, hi, _, hcy0, hcy, hc, hv => by
    obtain rfl : i = s := by omega
    refine ⟨c, cy, hcy0, hcy, hv, hc, ?_⟩
    unfold f_Bg_timesPlus_6
    simp (disch := omega) only [iI_lit, iL_lit, iI_le, iL_eqU, iI_ok, iI_c, iL_i, iI_add]
    rw [if_pos (by omega)]
    by_cases h0 : cy = 0
    · rw [if_pos h0, if_pos h0]
    · rw [if_neg h0, if_neg h0]
      by_cases h9 : 96 ≤ i
      · rw [if_pos h9, if_pos (by omega)]
      · rw [if_neg h9, if_neg (by omega), if_pos (by omega)]
        rfl
  | d + 1, i, n + 1, c, cy, hi, hn, hcy0, hcy, hc, hv => by
    have hlt : i < s := by omega
    have hu := u3_l (c i)
    have hu0 := u3_0 (c i)
    have hm : u3 (c i) * k ≤ 4294967295 * 2147483647 := Int.mul_le_mul (by omega) (by omega) hk0 (by omega)
    have hm0 : 0 ≤ u3 (c i) * k := Int.mul_nonneg hu0 hk0
    unfold f_Bg_timesPlus_6
    simp (disch := omega) only [iI_lit, iL_lit, iI_le, iI_ok, iI_c, iL_i, iI_l, iI_add, iI_low, iL_mul, iL_add, l_ushrI, Int.toNat_natCast]
    rw [if_neg (by omega), if_pos (by omega), if_pos (by omega)]
    refine tp_loop hk0 hk c0 hs d (i + 1) n _ _ (by omega) (by omega) ?_ ?_ (fun j hj => ?_) ?_
    · exact Int.ediv_nonneg (by omega) (by decide)
    · exact Int.ediv_lt_of_lt_mul (by decide) (by show _ < 4294967296 * 4294967296; omega)
    · rw [upd_n (by omega)]; exact hc j (by omega)
    · rw [bv, bv_upd (Nat.le_refl _), upd_s, u3_m, bv, pw32, hc i (Nat.le_refl _)] at *
      show _ + _ + (_ / 4294967296) * _ = _
      have e := Int.mul_ediv_add_emod (cy + u3 (c0 i) * k) 4294967296
      generalize (2 : Int) ^ (32 * i) = P at *
      generalize (cy + u3 (c0 i) * k) / 4294967296 = q at *
      generalize (cy + u3 (c0 i) * k) % 4294967296 = w at *
      grind
set_option maxRecDepth 10000 in
theorem p2_mono {a b : Nat} (h : a ≤ b) : (2 : Int) ^ a ≤ 2 ^ b := by
  rw [show b = a + (b - a) by omega, Int.pow_add]
  have := p2_pos a
  have := p2_pos (b - a)
  have := Int.mul_le_mul_of_nonneg_left (show (1 : Int) ≤ 2 ^ (b - a) by omega) (show (0 : Int) ≤ 2 ^ a by omega)
  omega
set_option maxRecDepth 10000 in
theorem tp_spec {sz : Int32} {c : Nat → Int32} {N k a : Int} (h : BR sz c N) (hk0 : 0 < k) (hk : k < 2147483648) (ha0 : 0 ≤ a) (ha : a < 2147483648) (hb : N * k + a < 2 ^ 3072) : ∃ sz' c', f_Bg_timesPlus (iI k) (iI a) sz c = some (sz', c') ∧ BR sz' c' (N * k + a) := by
  obtain ⟨s, rfl, hs, htop, hv⟩ := h
  have hf := fu_pos
  have hN := bv_nn c s
  obtain ⟨c1, cy1, h0, h1, h2, h3, h4⟩ := tp_loop (a := a) (by omega) hk c hs s 0 gx_fu c a (by omega) (by omega) (by omega) (by omega) (fun _ _ => rfl) (by simp [bv])
  rw [hv] at h2 hN
  unfold f_Bg_timesPlus
  simp (disch := omega) only [iI_lit, iI_l]
  rw [show (iI 0) = iI (0 : Nat) from rfl, h4]
  by_cases hc : cy1 = 0
  · rw [if_pos hc]
    refine ⟨_, _, rfl, s, rfl, hs, fun h0 q => ?_, by rw [← h2, hc]; omega⟩
    have ht := bv_top h0 (htop h0)
    have hl : bv c1 s < 2 ^ (32 * (s - 1)) := by
      obtain ⟨t, rfl⟩ : ∃ t, s = t + 1 := ⟨s - 1, by omega⟩
      rw [Nat.add_sub_cancel] at q ⊢
      rw [bv, q, u3_z]
      have := bv_lt c1 t
      omega
    rw [hc] at h2
    have : N * 1 ≤ N * k := Int.mul_le_mul_of_nonneg_left (by omega) hN
    omega
  · rw [if_neg hc]
    by_cases h9 : 96 ≤ s
    · exfalso
      obtain rfl : s = 96 := by omega
      have : 1 * 2 ^ (32 * 96) ≤ cy1 * 2 ^ (32 * 96) := Int.mul_le_mul_of_nonneg_right (by omega) (Int.le_of_lt (p2_pos _))
      have := bv_nn c1 96
      omega
    · rw [if_neg h9]
      refine ⟨_, _, rfl, s + 1, rfl, by omega, fun _ q => ?_, ?_⟩
      · rw [Nat.add_sub_cancel, upd_s] at q
        exact hc (by have := congrArg u3 q; rw [u3_i h0 h1, u3_z] at this; exact this)
      · rw [bv, bv_upd (Nat.le_refl _), upd_s, u3_i h0 h1]
        exact h2
set_option maxRecDepth 10000 in
theorem p5_pos (n : Nat) : (0 : Int) < 5 ^ n := Int.pow_pos (by decide)
set_option maxRecDepth 10000 in
theorem p5_mono {a b : Nat} (h : a ≤ b) : (5 : Int) ^ a ≤ 5 ^ b := by
  rw [show b = a + (b - a) by omega, Int.pow_add]
  have := p5_pos a
  have := p5_pos (b - a)
  have := Int.mul_le_mul_of_nonneg_left (show (1 : Int) ≤ 5 ^ (b - a) by omega) (show (0 : Int) ≤ 5 ^ a by omega)
  omega
set_option maxRecDepth 10000 in
theorem five_get (j : Nat) (h : j < 14) : gl_five.getD j (iI 0) = iI (5 ^ j) := by
  have : ∀ j : Fin 14, gl_five.getD j.val (iI 0) = iI (5 ^ j.val) := by decide +kernel
  exact this ⟨j, h⟩
set_option maxRecDepth 10000 in
theorem five_lt (j : Nat) (h : j < 14) : (5 : Int) ^ j < 2147483648 := by
  have := p5_mono (show j ≤ 13 by omega)
  have : (5 : Int) ^ 13 = 1220703125 := by decide
  omega
set_option maxRecDepth 10000 in
theorem tf_loop : ∀ (p n : Nat) (sz : Int32) (c : Nat → Int32) (N : Int), BR sz c N → p < n → p < 100000 → N * 5 ^ p < 2 ^ 3072 → ∃ sz' c', f_Bg_timesFives_2 n (iI p) sz c = some (sz', c') ∧ BR sz' c' (N * 5 ^ p)
  | p, 0, _, _, _, _, h, _, _ => by omega
  | p, n + 1, sz, c, N, h, hn, hp, hb => by
    have hN := BR_nn h
    unfold f_Bg_timesFives_2
    simp (disch := omega) only [iI_lit, iL_lit, iI_add, iI_sub, iI_mul, iI_neg, iL_add, iL_sub, iL_mul, iL_neg, iI_lt, iI_le, iI_eq, iL_lt, iL_le, iL_eqS, iI_c, iI_ok, iI_l, iL_i, iI_low, l_ushrI, l_shlI, l_shrI, i_shlI, i_shrI, i_ushrI, iI_div, iL_div, Int.toNat_natCast, Int.reduceToNat, iI_ofNat]
    by_cases h13 : (p : Int) ≤ 13
    · rw [if_pos h13]
      by_cases h0 : (p : Int) ≤ 0
      · obtain rfl : p = 0 := by omega
        rw [if_pos h0]
        exact ⟨sz, c, rfl, by rw [Int.pow_zero, Int.mul_one]; exact h⟩
      · rw [if_neg h0, if_pos (by omega), five_get p (by omega)]
        obtain ⟨sz', c', e, h'⟩ := tp_spec h (p5_pos p) (five_lt p (by omega)) (a := 0) (by omega) (by omega) (by omega)
        rw [e]
        exact ⟨sz', c', rfl, by rw [Int.add_zero] at h'; exact h'⟩
    · rw [if_neg h13, if_pos (by decide), five_get 13 (by omega)]
      have e5 : (5 : Int) ^ p = 5 ^ 13 * 5 ^ (p - 13) := by rw [← Int.pow_add]; congr 1; omega
      have hm : N * 5 ^ 13 ≤ N * 5 ^ p := Int.mul_le_mul_of_nonneg_left (p5_mono (by omega)) hN
      obtain ⟨sz', c', e, h'⟩ := tp_spec h (p5_pos 13) (five_lt 13 (by omega)) (a := 0) (by omega) (by omega) (by omega)
      rw [e]
      rw [Int.add_zero] at h'
      simp only [Option.bind_some]
      rw [show ((p : Int) + -13) = ((p - 13 : Nat) : Int) by omega]
      obtain ⟨sz2, c2, e2, h2⟩ := tf_loop (p - 13) n sz' c' _ h' (by omega) (by omega) (by rw [Int.mul_assoc, ← e5]; exact hb)
      exact ⟨sz2, c2, e2, by rw [e5, ← Int.mul_assoc]; exact h2⟩
set_option maxRecDepth 10000 in
theorem tf_spec {sz : Int32} {c : Nat → Int32} {N p : Int} (h : BR sz c N) (hp0 : 0 ≤ p) (hp : p < 100000) (hb : N * 5 ^ p.toNat < 2 ^ 3072) : ∃ sz' c', f_Bg_timesFives (iI p) sz c = some (sz', c') ∧ BR sz' c' (N * 5 ^ p.toNat) := by
  unfold f_Bg_timesFives
  have := tf_loop p.toNat gx_fu sz c N h (by have := fu_pos; omega) (by omega) hb
  rw [Int.toNat_of_nonneg hp0] at this
  exact this
set_option maxRecDepth 10000 in
theorem min_spec {a b : Int} (h : -2147483648 ≤ a) (h' : a < 2147483648) (k : -2147483648 ≤ b) (k' : b < 2147483648) : f_JMath_min (iI a) (iI b) = some (iI (min a b)) := by
  unfold f_JMath_min
  simp (disch := omega) only [iI_lit, iL_lit, iI_add, iI_sub, iI_mul, iI_neg, iL_add, iL_sub, iL_mul, iL_neg, iI_lt, iI_le, iI_eq, iL_lt, iL_le, iL_eqS, iI_c, iI_ok, iI_l, iL_i, iI_low, l_ushrI, l_shlI, l_shrI, i_shlI, i_shrI, i_ushrI, iI_div, iL_div, Int.toNat_natCast, Int.reduceToNat, iI_ofNat]
  by_cases q : b < a
  · rw [if_pos q, Int.min_eq_right (by omega)]
  · rw [if_neg q, Int.min_eq_left (by omega)]
set_option maxRecDepth 10000 in
theorem max_spec {a b : Int} (h : -2147483648 ≤ a) (h' : a < 2147483648) (k : -2147483648 ≤ b) (k' : b < 2147483648) : f_JMath_max (iI a) (iI b) = some (iI (max a b)) := by
  unfold f_JMath_max
  simp (disch := omega) only [iI_lit, iL_lit, iI_add, iI_sub, iI_mul, iI_neg, iL_add, iL_sub, iL_mul, iL_neg, iI_lt, iI_le, iI_eq, iL_lt, iL_le, iL_eqS, iI_c, iI_ok, iI_l, iL_i, iI_low, l_ushrI, l_shlI, l_shrI, i_shlI, i_shrI, i_ushrI, iI_div, iL_div, Int.toNat_natCast, Int.reduceToNat, iI_ofNat]
  by_cases q : a < b
  · rw [if_pos q, Int.max_eq_right (by omega)]
  · rw [if_neg q, Int.max_eq_left (by omega)]
set_option maxRecDepth 10000 in
theorem iL_orK {a b : Int} (k : Nat) (ha : 0 ≤ a) (hb : 0 ≤ b) (hk : b < 2 ^ k) (hm : a * 2 ^ k + b < 18446744073709551616) : iL (a * 2 ^ k) ||| iL b = iL (a * 2 ^ k + b) := by
  have hp := p2_pos k
  have h1 : 0 ≤ a * 2 ^ k := Int.mul_nonneg ha (by omega)
  rw [iL_or h1 (by omega) hb (by omega)]
  congr 1
  obtain ⟨x, rfl⟩ : ∃ x : Nat, a = x := ⟨a.toNat, by omega⟩
  obtain ⟨y, rfl⟩ : ∃ y : Nat, b = y := ⟨b.toNat, by omega⟩
  have e1 : ((x : Int) * 2 ^ k).toNat = x <<< k := by rw [Nat.shiftLeft_eq]; have : ((x * 2 ^ k : Nat) : Int) = (x : Int) * 2 ^ k := by simp
                                                      omega
  have h2 : y < 2 ^ k := by have : ((2 ^ k : Nat) : Int) = 2 ^ k := by simp
                            omega
  rw [e1, Int.toNat_natCast, ← Nat.shiftLeft_add_eq_or_of_lt h2, Nat.shiftLeft_eq]
  simp
set_option maxRecDepth 10000 in
theorem dv (a : Int) (m n : Nat) : a / 2 ^ m / 2 ^ n = a / 2 ^ (m + n) := by rw [Int.pow_add, Int.ediv_ediv_of_nonneg (Int.le_of_lt (p2_pos m))]
set_option maxRecDepth 10000 in
theorem dv_mul (a : Int) (m n : Nat) : a * 2 ^ n / 2 ^ (m + n) = a / 2 ^ m := by
  rw [Int.pow_add]
  exact Int.mul_ediv_mul_of_pos_left a _ (p2_pos n)
set_option maxRecDepth 10000 in
theorem sl_digit {N : Int} (w r i : Nat) (hr : r < 32) (h : w ≤ i) : (N * 2 ^ (32 * w + r)) / 2 ^ (32 * i) = (N * 4294967296) / 2 ^ (32 * (i - w)) / 2 ^ (32 - r) := by
  have e1 : (N * 4294967296) / 2 ^ (32 * (i - w)) / 2 ^ (32 - r) = N * 2 ^ r / 2 ^ (32 * (i - w)) := by
    rw [dv, show (4294967296 : Int) = 2 ^ r * 2 ^ (32 - r) by rw [← Int.pow_add, show r + (32 - r) = 32 by omega]; rfl, ← Int.mul_assoc]
    exact dv_mul (N * 2 ^ r) _ _
  rw [e1, Int.pow_add, Int.mul_comm ((2 : Int) ^ (32 * w)), ← Int.mul_assoc, show 32 * i = 32 * (i - w) + 32 * w by omega]
  exact dv_mul _ _ _
set_option maxRecDepth 10000 in
theorem pair_mod (Y : Int) (r : Nat) (hr : r < 32) : Y / 2 ^ (32 - r) % 4294967296 = (Y % 18446744073709551616) / 2 ^ (32 - r) % 4294967296 := by
  have e : Y = Y % 18446744073709551616 + (Y / 18446744073709551616 * 4294967296 * 2 ^ r) * 2 ^ (32 - r) := by
    have := Int.mul_ediv_add_emod Y 18446744073709551616
    rw [Int.mul_assoc _ ((2 : Int) ^ r), ← Int.pow_add, show r + (32 - r) = 32 by omega]
    show Y = _ + _ * 4294967296 * 4294967296
    omega
  have e2 : Y / 2 ^ (32 - r) = (Y % 18446744073709551616) / 2 ^ (32 - r) + (Y / 18446744073709551616 * 2 ^ r) * 4294967296 := by
    have hp := p2_pos (32 - r)
    conv => lhs; rw [e]
    rw [Int.add_mul_ediv_right _ _ (by omega)]
    grind
  rw [e2, Int.add_mul_emod_self_right]
set_option maxRecDepth 10000 in
theorem limb_at {c c0 : Nat → Int32} {s : Nat} {N : Int} (hN : bv c0 s = N) {i : Int} (he : ∀ k : Nat, (k : Int) ≤ i → c k = c0 k) : (if 0 ≤ i ∧ i < s then u3 (c i.toNat) else 0) = if 0 ≤ i then N / 2 ^ (32 * i.toNat) % 4294967296 else 0 := by
  by_cases h : 0 ≤ i
  · rw [if_pos h, ← hN, ← limb_of h]
    by_cases h2 : i < s
    · rw [if_pos ⟨h, h2⟩, if_pos ⟨h, h2⟩, he _ (by omega)]
    · rw [if_neg (by omega), if_neg (by omega)]
  · rw [if_neg (by omega), if_neg h]
set_option maxRecDepth 10000 in
theorem sl_loop {c0 : Nat → Int32} {s g w r : Nat} {N : Int} (hs : s ≤ 96) (hg : g ≤ 96) (hw : w < 100000) (hr : r < 32) (hN : bv c0 s = N) :
    ∀ (i n : Nat) (c : Nat → Int32), i ≤ g → i < n → (∀ k, k < i → c k = c0 k) → (∀ k, i ≤ k → k < g → u3 (c k) = N * 2 ^ (32 * w + r) / 2 ^ (32 * k) % 4294967296) →
    ∃ sz' c', f_Bg_shiftLeft_35 n (iI w) (iI r) (iI g) (iI ((i : Int) - 1)) (iI s) c = some (sz', c') ∧ BR sz' c' (N * 2 ^ (32 * w + r) % 2 ^ (32 * g))
  | 0, n + 1, c, hi, hn, hc, hd => by
    unfold f_Bg_shiftLeft_35
    simp (disch := omega) only [iI_lit, iL_lit, iI_add, iI_sub, iI_mul, iI_neg, iL_add, iL_sub, iL_mul, iL_neg, iI_lt, iI_le, iI_eq, iL_lt, iL_le, iL_eqS, iI_c, iI_ok, iI_l, iL_i, iI_low, l_ushrI, l_shlI, l_shrI, i_shlI, i_shrI, i_ushrI, iI_div, iL_div, Int.toNat_natCast, Int.reduceToNat, iI_ofNat]
    rw [if_pos (by omega)]
    obtain ⟨sz, h1, h2⟩ := trim_BR (c := c) hg
    rw [h1]
    refine ⟨sz, c, rfl, ?_⟩
    rw [← bv_of_digits (fun i hi => hd i (by omega) hi)]
    exact h2
  | i + 1, n + 1, c, hi, hn, hc, hd => by
    unfold f_Bg_shiftLeft_35
    have ei : (((i + 1 : Nat) : Int) - 1) = i := by omega
    rw [ei]
    simp (disch := omega) only [iI_lit, iL_lit, iI_add, iI_sub, iI_mul, iI_neg, iL_add, iL_sub, iL_mul, iL_neg, iI_lt, iI_le, iI_eq, iL_lt, iL_le, iL_eqS, iI_c, iI_ok, iI_l, iL_i, iI_low, l_ushrI, l_shlI, l_shrI, i_shlI, i_shrI, i_ushrI, iI_div, iL_div, Int.toNat_natCast, Int.reduceToNat, iI_ofNat]
    rw [if_neg (by omega), limb_spec hs (by omega) (by omega), limb_spec hs (by omega) (by omega)]
    simp only [Option.bind_some]
    rw [if_pos (by omega), limb_at hN (fun k hk => hc k (by omega)), limb_at hN (fun k hk => hc k (by omega)), show ((i : Int) + -1) = (i : Int) - 1 by omega]
    refine sl_loop hs hg hw hr hN i n _ (by omega) (by omega) (fun k hk => ?_) (fun k hk1 hk2 => ?_)
    · rw [upd_n (by omega)]; exact hc k (by omega)
    · by_cases hk : k = i
      · subst hk
        rw [upd_s]
        by_cases hj : w ≤ k
        · rw [sl_digit w r k hr hj, pair_mod _ r hr]
          have h0 := u3_0 (c k)
          obtain ⟨j, rfl⟩ : ∃ j, k = w + j := ⟨k - w, by omega⟩
          have e1 : (((w + j : Nat) : Int) - (w : Int)) = (j : Int) := by omega
          rw [e1, if_pos (by omega), Int.toNat_natCast, show w + j - w = j by omega]
          have ex : ∀ Y : Int, Y % 18446744073709551616 = (Y / 4294967296 % 4294967296) * 2 ^ 32 + Y % 4294967296 := by intro Y; show _ = _ * 4294967296 + _; omega
          have e2 : N * 4294967296 / 2 ^ (32 * j) / 4294967296 = N / 2 ^ (32 * j) := by
            rw [show (4294967296 : Int) = 2 ^ 32 from rfl, dv]; exact dv_mul _ _ _
          have e3 : (if (0 : Int) ≤ (j : Int) - 1 then N / 2 ^ (32 * ((j : Int) - 1).toNat) % 4294967296 else 0) = N * 4294967296 / 2 ^ (32 * j) % 4294967296 := by
            by_cases h : (0 : Int) ≤ (j : Int) - 1
            · rw [if_pos h]
              congr 1
              rw [show 32 * j = 32 * ((j : Int) - 1).toNat + 32 by omega]
              exact (dv_mul N _ 32).symm
            · obtain rfl : j = 0 := by omega
              rw [if_neg h]
              simp
          rw [e3, ex, e2]
          generalize hA : N / 2 ^ (32 * j) % 4294967296 = A
          generalize hB : N * 4294967296 / 2 ^ (32 * j) % 4294967296 = B
          have hA0 : 0 ≤ A ∧ A < 4294967296 := by omega
          have hB0 : 0 ≤ B ∧ B < 4294967296 := by omega
          rw [l_shlI (by decide) (by decide)]
          rw [show (2 : Int) ^ (32 : Int).toNat = 2 ^ 32 from rfl, iL_orK 32 (by omega) (by omega) (by omega) (by omega), l_ushrI (by omega) (by omega) (by omega) (by omega), iL_i, u3_m]
          congr 2
          congr 1
          omega
        · rw [if_neg (by omega), if_neg (by omega)]
          have e0 : iL 0 <<< (iL 32 &&& iL 63) ||| iL 0 = iL 0 := by decide +kernel
          rw [e0, l_ushrI (by omega) (by omega) (by omega) (by omega), iL_i, Int.zero_ediv, u3_z']
          have e1 : N * 2 ^ (32 * w + r) / 2 ^ (32 * k) = (N * 2 ^ (32 * (w - k - 1) + r)) * 4294967296 := by
            rw [show 32 * w + r = (32 * (w - k - 1) + r + 32) + 32 * k by omega, Int.pow_add _ _ (32 * k), ← Int.mul_assoc, Int.mul_ediv_cancel _ (by have := p2_pos (32 * k); omega), Int.pow_add _ _ 32, ← Int.mul_assoc]
            rfl
          rw [e1, Int.mul_emod_left]
      · rw [upd_n hk]; exact hd k (by omega) hk2
set_option maxRecDepth 10000 in
theorem sl_spec {sz : Int32} {c : Nat → Int32} {N b : Int} (h : BR sz c N) (hb : b < 100000) (hb' : -100000 < b) (hm : N * 2 ^ b.toNat < 2 ^ 3072) : ∃ sz' c', f_Bg_shiftLeft (iI b) sz c = some (sz', c') ∧ BR sz' c' (N * 2 ^ b.toNat) := by
  have hN := BR_nn h
  unfold f_Bg_shiftLeft
  simp (disch := omega) only [iI_lit, iL_lit, iI_add, iI_sub, iI_mul, iI_neg, iL_add, iL_sub, iL_mul, iL_neg, iI_lt, iI_le, iI_eq, iL_lt, iL_le, iL_eqS, iI_c, iI_ok, iI_l, iL_i, iI_low, l_ushrI, l_shlI, l_shrI, i_shlI, i_shrI, i_ushrI, iI_div, iL_div, Int.toNat_natCast, Int.reduceToNat, iI_ofNat]
  by_cases h0 : 0 < b
  · rw [if_pos h0]
    obtain ⟨s, rfl, hs, htop, hv⟩ := h
    have hand : iI b &&& iI 31 = iI (b % 32) := by
      rw [iI_and (by omega) (by omega) (by decide) (by decide)]
      congr 1
      rw [show (31 : Int).toNat = 2 ^ 5 - 1 from rfl, Nat.and_two_pow_sub_one_eq_mod]
      omega
    rw [hand, show (2 : Int) ^ 5 = 32 from rfl]
    simp (disch := omega) only [iI_lit, iL_lit, iI_add, iI_sub, iI_mul, iI_neg, iL_add, iL_sub, iL_mul, iL_neg, iI_lt, iI_le, iI_eq, iL_lt, iL_le, iL_eqS, iI_c, iI_ok, iI_l, iL_i, iI_low, l_ushrI, l_shlI, l_shrI, i_shlI, i_shrI, i_ushrI, iI_div, iL_div, Int.toNat_natCast, Int.reduceToNat, iI_ofNat]
    obtain ⟨w, hw⟩ : ∃ w : Nat, b / 32 = w := ⟨(b / 32).toNat, by omega⟩
    obtain ⟨r, hr⟩ : ∃ r : Nat, b % 32 = r := ⟨(b % 32).toNat, by omega⟩
    have hbe : b.toNat = 32 * w + r := by omega
    rw [hw, hr]
    have key : ∀ g : Nat, g ≤ 96 → N * 2 ^ (32 * w + r) < 2 ^ (32 * g) → ∃ sz' c', f_Bg_shiftLeft_35 gx_fu (iI w) (iI r) (iI g) (iI ((g : Int) - 1)) (iI s) c = some (sz', c') ∧ BR sz' c' (N * 2 ^ b.toNat) := by
      intro g hg hlt
      have := sl_loop hs hg (show w < 100000 by omega) (show r < 32 by omega) hv g gx_fu c (Nat.le_refl _) (by have := fu_pos; omega) (fun _ _ => rfl) (fun k h1 h2 => by omega)
      rw [Int.emod_eq_of_lt (Int.mul_nonneg hN (Int.le_of_lt (p2_pos _))) hlt] at this
      rw [hbe]; exact this
    rw [min_spec (by omega) (by omega) (by omega) (by omega), Option.bind_some, iI_sub]
    by_cases hg : (s : Int) + w + 1 ≤ 96
    · rw [Int.min_eq_left hg]
      have hlt : N * 2 ^ (32 * w + r) < 2 ^ (32 * (s + w + 1)) := by
        rw [← hv, show 32 * (s + w + 1) = 32 * s + (32 * w + 32) by omega, Int.pow_add _ (32 * s)]
        refine Int.lt_of_lt_of_le (Int.mul_lt_mul_of_pos_right (bv_lt c s) (p2_pos _)) ?_
        exact Int.mul_le_mul_of_nonneg_left (p2_mono (by omega)) (Int.le_of_lt (p2_pos _))
      have := key (s + w + 1) (by omega) hlt
      rw [show ((s + w + 1 : Nat) : Int) = (s : Int) + w + 1 by omega] at this
      exact this
    · rw [Int.min_eq_right (by omega)]
      exact key 96 (Nat.le_refl _) (by rw [hbe] at hm; exact hm)
  · rw [if_neg h0, show b.toNat = 0 by omega, Int.pow_zero, Int.mul_one]
    exact ⟨sz, c, rfl, h⟩
set_option maxRecDepth 10000 in
theorem st_spec {v f t : Int} (hv0 : 0 ≤ v) (hv : v < 18446744073709551616) (hf0 : 0 ≤ f) (hf : f < 100000) (ht0 : 0 ≤ t) (ht : t < 100000) (hm : v * 5 ^ f.toNat * 2 ^ t.toNat < 2 ^ 3072) (sz : Int32) (c : Nat → Int32) : ∃ sz' c', f_Bg_setTimes (iL v) (iI f) (iI t) sz c = some (sz', c') ∧ BR sz' c' (v * 5 ^ f.toNat * 2 ^ t.toNat) := by
  unfold f_Bg_setTimes
  obtain ⟨s1, c1, e1, h1⟩ := set_spec hv0 hv sz c
  have h5 : 0 ≤ v * 5 ^ f.toNat := Int.mul_nonneg hv0 (Int.le_of_lt (p5_pos _))
  have : v * 5 ^ f.toNat * 1 ≤ v * 5 ^ f.toNat * 2 ^ t.toNat := Int.mul_le_mul_of_nonneg_left (by have := p2_pos t.toNat; omega) h5
  obtain ⟨s2, c2, e2, h2⟩ := tf_spec h1 hf0 hf (by omega)
  obtain ⟨s3, c3, e3, h3⟩ := sl_spec h2 ht (by omega) hm
  refine ⟨s3, c3, ?_, h3⟩
  rw [e1, Option.bind_some, e2, Option.bind_some, e3, Option.bind_some]
set_option maxRecDepth 10000 in
theorem copy_spec {sz1 : Int32} {c1 : Nat → Int32} {N : Int} (h : BR sz1 c1 N) (sz : Int32) (c : Nat → Int32) : ∃ sz' c', f_Bg_copy sz1 sz c1 c = some (sz', c') ∧ BR sz' c' N := by
  obtain ⟨s, rfl, hs, htop, hv⟩ := h
  unfold f_Bg_copy gx_cpk gx_cpf
  simp (disch := omega) only [iI_lit, iL_lit, iI_add, iI_sub, iI_mul, iI_neg, iL_add, iL_sub, iL_mul, iL_neg, iI_lt, iI_le, iI_eq, iL_lt, iL_le, iL_eqS, iI_c, iI_ok, iI_l, iL_i, iI_low, l_ushrI, l_shlI, l_shrI, i_shlI, i_shrI, i_ushrI, iI_div, iL_div, Int.toNat_natCast, Int.reduceToNat, iI_ofNat]
  rw [if_pos (by simp; omega), if_pos (by simp [fits])]
  refine ⟨_, _, rfl, s, rfl, hs, fun h0 => ?_, ?_⟩
  · rw [va_cpy, if_pos (by omega)]
    simp only [Nat.zero_add, Nat.sub_zero]
    exact htop h0
  · rw [← hv]
    apply bv_congr
    intro i hi
    rw [va_cpy, if_pos (by omega)]
    simp only [Nat.zero_add, Nat.sub_zero]
set_option maxRecDepth 10000 in
def cmpI (a b : Int) : Int := if a < b then -1 else if a = b then 0 else 1
set_option maxRecDepth 10000 in
theorem cmpI_add (a b x : Int) : cmpI (a + x) (b + x) = cmpI a b := by
  unfold cmpI
  simp only [show (a + x < b + x) = (a < b) from propext (by omega), show (a + x = b + x) = (a = b) from propext (by omega)]
set_option maxRecDepth 10000 in
theorem ag_loop {c d : Nat → Int32} {s1 s2 : Int32} : ∀ (i n : Nat), i ≤ 96 → i < n → f_Bg_against_35 n (iI ((i : Int) - 1)) s1 s2 c d = some (iI (cmpI (bv c i) (bv d i)))
  | 0, n + 1, _, _ => by
    unfold f_Bg_against_35
    simp (disch := omega) only [iI_lit, iL_lit, iI_add, iI_sub, iI_mul, iI_neg, iL_add, iL_sub, iL_mul, iL_neg, iI_lt, iI_le, iI_eq, iL_lt, iL_le, iL_eqS, iI_c, iI_ok, iI_l, iL_i, iI_low, l_ushrI, l_shlI, l_shrI, i_shlI, i_shrI, i_ushrI, iI_div, iL_div, Int.toNat_natCast, Int.reduceToNat, iI_ofNat]
    rw [if_pos (by omega)]
    rfl
  | i + 1, n + 1, hi, hn => by
    unfold f_Bg_against_35
    rw [show (((i + 1 : Nat) : Int) - 1) = i by omega]
    have h1 := u3_0 (c i)
    have h2 := u3_l (c i)
    have h3 := u3_0 (d i)
    have h4 := u3_l (d i)
    simp (disch := omega) only [iI_lit, iL_lit, iI_add, iI_sub, iI_mul, iI_neg, iL_add, iL_sub, iL_mul, iL_neg, iI_lt, iI_le, iI_eq, iL_lt, iL_le, iL_eqS, iI_c, iI_ok, iI_l, iL_i, iI_low, l_ushrI, l_shlI, l_shrI, i_shlI, i_shrI, i_ushrI, iI_div, iL_div, Int.toNat_natCast, Int.reduceToNat, iI_ofNat]
    rw [if_neg (by omega), if_pos (by omega), if_pos (by omega)]
    have l1 := bv_lt c i
    have l2 := bv_lt d i
    have n1 := bv_nn c i
    have n2 := bv_nn d i
    by_cases he : c i = d i
    · rw [if_pos he, show ((i : Int) + -1) = (i : Int) - 1 by omega, ag_loop i n (by omega) (by omega)]
      congr 2
      rw [bv, bv, he]
      exact (cmpI_add _ _ _).symm
    · rw [if_neg he, if_pos (by omega), if_pos (by omega)]
      have hne : u3 (c i) ≠ u3 (d i) := fun q => he (u3_inj q)
      by_cases hle : u3 (d i) ≤ u3 (c i)
      · rw [if_pos hle, bv, bv]
        have : (u3 (d i) + 1) * 2 ^ (32 * i) ≤ u3 (c i) * 2 ^ (32 * i) := Int.mul_le_mul_of_nonneg_right (by omega) (by omega)
        rw [Int.add_mul, Int.one_mul] at this
        unfold cmpI
        rw [if_neg (by omega), if_neg (by omega)]
      · rw [if_neg hle, bv, bv]
        have : (u3 (c i) + 1) * 2 ^ (32 * i) ≤ u3 (d i) * 2 ^ (32 * i) := Int.mul_le_mul_of_nonneg_right (by omega) (by omega)
        rw [Int.add_mul, Int.one_mul] at this
        unfold cmpI
        rw [if_pos (by omega)]
set_option maxRecDepth 10000 in
theorem ag_spec {s1 s2 : Int32} {c d : Nat → Int32} {N M : Int} (h1 : BR s1 c N) (h2 : BR s2 d M) : f_Bg_against s1 s2 c d = some (iI (cmpI N M)) := by
  obtain ⟨s, rfl, hs, htop, rfl⟩ := h1
  obtain ⟨t, rfl, ht, htop2, rfl⟩ := h2
  unfold f_Bg_against
  simp (disch := omega) only [iI_lit, iL_lit, iI_add, iI_sub, iI_mul, iI_neg, iL_add, iL_sub, iL_mul, iL_neg, iI_lt, iI_le, iI_eq, iL_lt, iL_le, iL_eqS, iI_c, iI_ok, iI_l, iL_i, iI_low, l_ushrI, l_shlI, l_shrI, i_shlI, i_shrI, i_ushrI, iI_div, iL_div, Int.toNat_natCast, Int.reduceToNat, iI_ofNat]
  by_cases he : s = t
  · subst he
    rw [if_pos rfl]
    exact ag_loop s gx_fu hs (by have := fu_pos; omega)
  · rw [if_neg (by omega)]
    have l1 := bv_lt c s
    have l2 := bv_lt d t
    by_cases hle : t ≤ s
    · rw [if_pos (by omega)]
      have := bv_top (by omega) (htop (by omega))
      have := p2_mono (show 32 * t ≤ 32 * (s - 1) by omega)
      unfold cmpI
      rw [if_neg (by omega), if_neg (by omega)]
    · rw [if_neg (by omega)]
      have := bv_top (by omega) (htop2 (by omega))
      have := p2_mono (show 32 * s ≤ 32 * (t - 1) by omega)
      unfold cmpI
      rw [if_pos (by omega)]
set_option maxRecDepth 10000 in
theorem iL_lowL {a : Int} (h : 0 ≤ a) (h' : a < 18446744073709551616) : iL a &&& iL 4294967295 = iL (a % 4294967296) := by
  rw [iL_and h h' (by decide) (by decide)]
  congr 1
  rw [show (4294967295 : Int).toNat = 2 ^ 32 - 1 from rfl, Nat.and_two_pow_sub_one_eq_mod]
  omega
set_option maxRecDepth 10000 in
theorem mt_step (M : Int) (i : Nat) : M % 2 ^ (32 * (i + 1)) = M % 2 ^ (32 * i) + (M / 2 ^ (32 * i) % 4294967296) * 2 ^ (32 * i) := by
  rw [pw32]
  have hp := p2_pos (32 * i)
  generalize (2 : Int) ^ (32 * i) = P at *
  have e1 := Int.mul_ediv_add_emod M P
  have e2 := Int.mul_ediv_add_emod (M / P) 4294967296
  have e3 := Int.mul_ediv_add_emod M (4294967296 * P)
  have e4 : M / (4294967296 * P) = M / P / 4294967296 := by rw [Int.mul_comm, Int.ediv_ediv_of_nonneg (by omega)]
  rw [e4] at e3
  grind
set_option maxRecDepth 10000 in
theorem mt_loop {t M : Int} {s m : Nat} {d : Nat → Int32} (ht0 : 0 ≤ t) (ht : t < 2147483648) (c0 : Nat → Int32) (hs : s ≤ 96) (hm : m ≤ 96) (hM : bv d m = M) (hfit : M * t ≤ bv c0 s) : ∀ (e i n : Nat) (c : Nat → Int32) (cy : Int), i + e = s → e < n → 0 ≤ cy → cy ≤ 2147483648 → (∀ j, i ≤ j → c j = c0 j) → bv c i + (M % 2 ^ (32 * i)) * t = bv c0 i + cy * 2 ^ (32 * i) →
    ∃ sz' c', f_Bg_minusTimes_5 n (iI t) (iL cy) (iI i) (iI s) c (iI m) d = some (sz', c') ∧ BR sz' c' (bv c0 s - M * t)
  | 0, i, n + 1, c, cy, hi, _, hcy0, hcy, hc, hv => by
    obtain rfl : i = s := by omega
    unfold f_Bg_minusTimes_5
    simp (disch := omega) only [iI_lit, iL_lit, iI_add, iI_sub, iI_mul, iI_neg, iL_add, iL_sub, iL_mul, iL_neg, iI_lt, iI_le, iI_eq, iL_lt, iL_le, iL_eqS, iI_c, iI_ok, iI_l, iL_i, iI_low, l_ushrI, l_shlI, l_shrI, i_shlI, i_shrI, i_ushrI, iI_div, iL_div, Int.toNat_natCast, Int.reduceToNat, iI_ofNat]
    rw [if_pos (by omega)]
    obtain ⟨sz, h1, h2⟩ := trim_BR (c := c) hs
    rw [h1]
    refine ⟨sz, c, rfl, ?_⟩
    have hl := bv_lt c i
    have hl0 := bv_lt c0 i
    have hn := bv_nn c i
    have hM0 : 0 ≤ M := by rw [← hM]; exact bv_nn _ _
    have hp := p2_pos (32 * i)
    have e1 : (M % 2 ^ (32 * i)) * t = M * t := by
      by_cases h0 : t = 0
      · rw [h0, Int.mul_zero, Int.mul_zero]
      · have : M * 1 ≤ M * t := Int.mul_le_mul_of_nonneg_left (by omega) hM0
        rw [Int.emod_eq_of_lt hM0 (by omega)]
    rw [e1] at hv
    have hcz : cy = 0 := by
      rcases Decidable.em (cy = 0) with q | q
      · exact q
      · have : 1 * 2 ^ (32 * i) ≤ cy * 2 ^ (32 * i) := Int.mul_le_mul_of_nonneg_right (by omega) (by omega)
        omega
    rw [hcz] at hv
    have : bv c0 i - M * t = bv c i := by omega
    rw [this]
    exact h2
  | e + 1, i, n + 1, c, cy, hi, hn, hcy0, hcy, hc, hv => by
    have hlt : i < s := by omega
    unfold f_Bg_minusTimes_5 f_Bg_minusTimes_75
    rw [limb_spec hm (by omega) (by omega), limb_of (by omega), hM]
    have hu := u3_l (c i)
    have hu0 := u3_0 (c i)
    rw [Int.toNat_natCast]
    generalize hL : M / 2 ^ (32 * i) % 4294967296 = L
    have hL0 : 0 ≤ L ∧ L < 4294967296 := by omega
    have hLt : L * t ≤ 4294967295 * 2147483647 := Int.mul_le_mul (by omega) (by omega) ht0 (by omega)
    have hLt0 : 0 ≤ L * t := Int.mul_nonneg (by omega) ht0
    simp (disch := omega) only [iI_lit, iL_lit, iI_add, iI_sub, iI_mul, iI_neg, iL_add, iL_sub, iL_mul, iL_neg, iI_lt, iI_le, iI_eq, iL_lt, iL_le, iL_eqS, iI_c, iI_ok, iI_l, iL_i, iI_low, l_ushrI, l_shlI, l_shrI, i_shlI, i_shrI, i_ushrI, iI_div, iL_div, Int.toNat_natCast, Int.reduceToNat, iI_ofNat, Option.bind_some, iL_lowL]
    rw [if_neg (by omega), if_pos (by omega), if_pos (by omega)]
    have e1 := Int.mul_ediv_add_emod (L * t + cy) 4294967296
    have hq0 : 0 ≤ (L * t + cy) / 4294967296 := Int.ediv_nonneg (by omega) (by decide)
    have hq1 : (L * t + cy) / 4294967296 < 2147483648 := Int.ediv_lt_of_lt_mul (by decide) (by omega)
    have hs1 := mt_step M i
    rw [hL] at hs1
    have hci := hc i (Nat.le_refl _)
    have he : ∀ j, i + 1 ≤ j → ∀ x, upd c i x j = c0 j := fun j hj x => by rw [upd_n (by omega)]; exact hc j (by omega)
    rw [show (2 : Int) ^ 32 = 4294967296 from rfl]
    generalize hw : (L * t + cy) % 4294967296 = w at *
    generalize (L * t + cy) / 4294967296 = q at *
    have hw0 : 0 ≤ w ∧ w < 4294967296 := by omega
    by_cases hsg : 0 ≤ u3 (c i) - w
    · rw [if_pos hsg]
      refine mt_loop ht0 ht c0 hs hm hM hfit e (i + 1) n _ _ (by omega) (by omega) (by omega) (by omega) (fun j hj => he j hj _) ?_
      rw [bv, bv_upd (Nat.le_refl _), upd_s, u3_i hsg (by omega), bv, hs1, pw32, hci]
      generalize (2 : Int) ^ (32 * i) = P at *
      grind
    · rw [if_neg hsg]
      refine mt_loop ht0 ht c0 hs hm hM hfit e (i + 1) n _ _ (by omega) (by omega) (by omega) (by omega) (fun j hj => he j hj _) ?_
      have e3 : (u3 (c i) - w) % 4294967296 = u3 (c i) - w + 4294967296 := by omega
      rw [bv, bv_upd (Nat.le_refl _), upd_s, u3_m, e3, bv, hs1, pw32, hci]
      generalize (2 : Int) ^ (32 * i) = P at *
      grind
set_option maxRecDepth 10000 in
theorem mt_spec {s1 s2 : Int32} {c d : Nat → Int32} {N M t : Int} (h1 : BR s1 c N) (h2 : BR s2 d M) (ht0 : 0 ≤ t) (ht : t < 2147483648) (hf : M * t ≤ N) : ∃ sz' c', f_Bg_minusTimes (iI t) s1 c s2 d = some (sz', c') ∧ BR sz' c' (N - M * t) := by
  obtain ⟨s, rfl, hs, htop, rfl⟩ := h1
  obtain ⟨m, rfl, hm, htop2, hM⟩ := h2
  unfold f_Bg_minusTimes
  have := mt_loop ht0 ht c hs hm hM hf s 0 gx_fu c 0 (by omega) (by have := fu_pos; omega) (by omega) (by omega) (fun _ _ => rfl) (by simp [bv, Int.emod_one])
  exact this
set_option maxRecDepth 10000 in
theorem bv_hi {c d : Nat → Int32} {i : Nat} : ∀ s, i ≤ s → (∀ j, i ≤ j → c j = d j) → bv c s - bv c i = bv d s - bv d i
  | 0, h, _ => by obtain rfl : i = 0 := by omega
                  rfl
  | s + 1, h, he => by
    by_cases q : i = s + 1
    · subst q; omega
    · have := bv_hi s (by omega) he
      have e1 : bv c (s + 1) = bv c s + u3 (c s) * 2 ^ (32 * s) := rfl
      have e2 : bv d (s + 1) = bv d s + u3 (d s) * 2 ^ (32 * s) := rfl
      rw [e1, e2, he s (by omega)]
      omega
set_option maxRecDepth 10000 in
theorem db_loop {c0 : Nat → Int32} {s : Nat} (hs : s ≤ 96) : ∀ (i n : Nat) (c : Nat → Int32) (r H : Int), i ≤ s → i < n → 0 ≤ r → r < 1000000000 → (∀ j, j < i → c j = c0 j) → bv c s = bv c i + H * 2 ^ (32 * i) → bv c0 s = bv c0 i + (H * 1000000000 + r) * 2 ^ (32 * i) →
    ∃ sz' c', f_Bg_divideByBillion_9 n (iL r) (iI ((i : Int) - 1)) (iI s) c = some (iI (bv c0 s % 1000000000), sz', c') ∧ BR sz' c' (bv c0 s / 1000000000)
  | 0, n + 1, c, r, H, hi, hn, hr0, hr, hc, hA, hB => by
    unfold f_Bg_divideByBillion_9
    simp (disch := omega) only [iI_lit, iL_lit, iI_add, iI_sub, iI_mul, iI_neg, iL_add, iL_sub, iL_mul, iL_neg, iI_lt, iI_le, iI_eq, iL_lt, iL_le, iL_eqS, iI_c, iI_ok, iI_l, iL_i, iI_low, l_ushrI, l_shlI, l_shrI, i_shlI, i_shrI, i_ushrI, iI_div, iL_div, Int.toNat_natCast, Int.reduceToNat, iI_ofNat]
    rw [if_pos (by omega)]
    obtain ⟨sz, h1, h2⟩ := trim_BR (c := c) hs
    rw [h1]
    simp only [bv, Nat.mul_zero, Int.pow_zero, Int.mul_one, Int.zero_add] at hA hB
    refine ⟨sz, c, ?_, ?_⟩
    · rw [Option.bind_some, hB, Int.mul_comm H, Int.add_comm, Int.add_mul_emod_self_left, Int.emod_eq_of_lt hr0 hr]
    · have : bv c0 s / 1000000000 = bv c s := by
        rw [hB, hA, Int.mul_comm H, Int.add_comm, Int.add_mul_ediv_left _ _ (by decide), Int.ediv_eq_zero_of_lt hr0 hr, Int.zero_add]
      rw [this]; exact h2
  | i + 1, n + 1, c, r, H, hi, hn, hr0, hr, hc, hA, hB => by
    unfold f_Bg_divideByBillion_9
    rw [show (((i + 1 : Nat) : Int) - 1) = i by omega]
    have hu := u3_l (c i)
    have hu0 := u3_0 (c i)
    have hci := hc i (by omega)
    simp (disch := omega) only [iI_lit, iL_lit, iI_add, iI_sub, iI_mul, iI_neg, iL_add, iL_sub, iL_mul, iL_neg, iI_lt, iI_le, iI_eq, iL_lt, iL_le, iL_eqS, iI_c, iI_ok, iI_l, iL_i, iI_low, l_ushrI, l_shlI, l_shrI, i_shlI, i_shrI, i_ushrI, iI_div, iL_div, Int.toNat_natCast, Int.reduceToNat, iI_ofNat]
    rw [iL_orK 32 hr0 hu0 (by omega) (by omega), show (2 : Int) ^ 32 = 4294967296 from rfl]
    simp (disch := omega) only [iI_lit, iL_lit, iI_add, iI_sub, iI_mul, iI_neg, iL_add, iL_sub, iL_mul, iL_neg, iI_lt, iI_le, iI_eq, iL_lt, iL_le, iL_eqS, iI_c, iI_ok, iI_l, iL_i, iI_low, l_ushrI, l_shlI, l_shrI, i_shlI, i_shrI, i_ushrI, iI_div, iL_div, Int.toNat_natCast, Int.reduceToNat, iI_ofNat]
    rw [if_neg (by omega), if_pos (by omega), if_pos (by omega), show ((i : Int) + -1) = (i : Int) - 1 by omega]
    generalize hT : r * 4294967296 + u3 (c i) = T
    have hT1 : T - T / 1000000000 * 1000000000 = T % 1000000000 := by omega
    rw [hT1]
    have hTd : 0 ≤ T / 1000000000 ∧ T / 1000000000 < 4294967296 := by omega
    have hsum := bv_hi (c := upd c i (iI (T / 1000000000))) (d := c) s hi (fun j hj => upd_n (by omega))
    have hTe := Int.mul_ediv_add_emod T 1000000000
    rw [bv, bv_upd (Nat.le_refl _), upd_s, u3_i hTd.1 hTd.2] at hsum
    have e1 : bv c (i + 1) = bv c i + u3 (c i) * 2 ^ (32 * i) := rfl
    have e2 : bv c0 (i + 1) = bv c0 i + u3 (c0 i) * 2 ^ (32 * i) := rfl
    rw [e1] at hsum
    rw [e1, pw32] at hA
    rw [e2, ← hci, pw32] at hB
    refine db_loop hs i n _ _ (H * 4294967296 + T / 1000000000) (by omega) (by omega) (by omega) (by omega) (fun j hj => by rw [upd_n (by omega)]; exact hc j (by omega)) ?_ ?_
    · rw [bv_upd (Nat.le_refl _)]
      generalize bv (upd c i (iI (T / 1000000000))) s = Z at *
      generalize (2 : Int) ^ (32 * i) = P at *
      generalize bv c s = Y at *
      generalize bv c i = X at *
      generalize T / 1000000000 = q at *
      generalize u3 (c i) = u at *
      have : Z = Y - (X + u * P) + (X + q * P) := by omega
      rw [this, hA]
      grind
    · rw [hB]
      generalize (2 : Int) ^ (32 * i) = P at *
      generalize bv c0 i = X at *
      generalize T / 1000000000 = q at *
      generalize T % 1000000000 = m at *
      generalize u3 (c i) = u at *
      grind
set_option maxRecDepth 10000 in
theorem db_spec {sz : Int32} {c : Nat → Int32} {N : Int} (h : BR sz c N) : ∃ sz' c', f_Bg_divideByBillion sz c = some (iI (N % 1000000000), sz', c') ∧ BR sz' c' (N / 1000000000) := by
  obtain ⟨s, rfl, hs, htop, rfl⟩ := h
  unfold f_Bg_divideByBillion
  rw [show (1 : Int32) = iI 1 from rfl, iI_sub]
  exact db_loop hs s gx_fu c 0 0 (Nat.le_refl _) (by have := fu_pos; omega) (by omega) (by omega) (fun _ _ => rfl) (by omega) (by omega)
set_option maxRecDepth 10000 in
theorem sh_bits {v : Int} {b k : Nat} (h1 : 2 ^ b ≤ v / 2 ^ k) (h2 : v / 2 ^ k < 2 ^ (b + 1)) : 2 ^ (b + k) ≤ v ∧ v < 2 ^ (b + k + 1) := by
  have hp := p2_pos k
  constructor
  · rw [Int.pow_add]
    exact (Int.le_ediv_iff_mul_le hp).mp h1
  · rw [show b + k + 1 = (b + 1) + k by omega, Int.pow_add]
    exact (Int.ediv_lt_iff_lt_mul hp).mp h2
set_option maxRecDepth 10000 in
theorem nlz73 {v w : Int} (h1 : 1 ≤ v) (h2 : v < 4) : ∃ b : Nat, b ≤ 1 ∧ 2 ^ b ≤ v ∧ v < 2 ^ (b + 1) ∧ f_JInt_numberOfLeadingZeros_73 (iI v) (iI w) = some (iI (w - b)) := by
  unfold f_JInt_numberOfLeadingZeros_73
  simp (disch := omega) only [iI_lit, iL_lit, iI_add, iI_sub, iI_mul, iI_neg, iL_add, iL_sub, iL_mul, iL_neg, iI_lt, iI_le, iI_eq, iL_lt, iL_le, iL_eqS, iI_c, iI_ok, iI_l, iL_i, iI_low, l_ushrI, l_shlI, l_shrI, i_shlI, i_shrI, i_ushrI, iI_div, iL_div, Int.toNat_natCast, Int.reduceToNat, iI_ofNat]
  by_cases h : v < 2
  · exact ⟨0, by omega, by simp; omega, by simp; omega, by congr 2; show w - v / 2 = _; omega⟩
  · exact ⟨1, by omega, by simp; omega, by show v < 4; omega, by congr 2; show w - v / 2 = _; omega⟩
set_option maxRecDepth 10000 in
theorem nlz61 {v w : Int} (h1 : 1 ≤ v) (h2 : v < 16) : ∃ b : Nat, b ≤ 3 ∧ 2 ^ b ≤ v ∧ v < 2 ^ (b + 1) ∧ f_JInt_numberOfLeadingZeros_61 (iI v) (iI w) = some (iI (w - b)) := by
  unfold f_JInt_numberOfLeadingZeros_61
  simp (disch := omega) only [iI_lit, iL_lit, iI_add, iI_sub, iI_mul, iI_neg, iL_add, iL_sub, iL_mul, iL_neg, iI_lt, iI_le, iI_eq, iL_lt, iL_le, iL_eqS, iI_c, iI_ok, iI_l, iL_i, iI_low, l_ushrI, l_shlI, l_shrI, i_shlI, i_shrI, i_ushrI, iI_div, iL_div, Int.toNat_natCast, Int.reduceToNat, iI_ofNat]
  by_cases h : v < 4
  · rw [if_pos h]
    obtain ⟨b, hb, q1, q2, q3⟩ := nlz73 (w := w) h1 h
    exact ⟨b, by omega, q1, q2, q3⟩
  · rw [if_neg h]
    obtain ⟨b, hb, q1, q2, q3⟩ := nlz73 (v := v / 2 ^ 2) (w := w + -2) (by show 1 ≤ v / 4; omega) (by show v / 4 < 4; omega)
    obtain ⟨r1, r2⟩ := sh_bits q1 q2
    exact ⟨b + 2, by omega, r1, r2, by rw [q3]; congr 2; omega⟩
set_option maxRecDepth 10000 in
theorem nlz48 {v w : Int} (h1 : 1 ≤ v) (h2 : v < 256) : ∃ b : Nat, b ≤ 7 ∧ 2 ^ b ≤ v ∧ v < 2 ^ (b + 1) ∧ f_JInt_numberOfLeadingZeros_48 (iI v) (iI w) = some (iI (w - b)) := by
  unfold f_JInt_numberOfLeadingZeros_48
  simp (disch := omega) only [iI_lit, iL_lit, iI_add, iI_sub, iI_mul, iI_neg, iL_add, iL_sub, iL_mul, iL_neg, iI_lt, iI_le, iI_eq, iL_lt, iL_le, iL_eqS, iI_c, iI_ok, iI_l, iL_i, iI_low, l_ushrI, l_shlI, l_shrI, i_shlI, i_shrI, i_ushrI, iI_div, iL_div, Int.toNat_natCast, Int.reduceToNat, iI_ofNat]
  by_cases h : v < 16
  · rw [if_pos h]
    obtain ⟨b, hb, q1, q2, q3⟩ := nlz61 (w := w) h1 h
    exact ⟨b, by omega, q1, q2, q3⟩
  · rw [if_neg h]
    obtain ⟨b, hb, q1, q2, q3⟩ := nlz61 (v := v / 2 ^ 4) (w := w + -4) (by show 1 ≤ v / 16; omega) (by show v / 16 < 16; omega)
    obtain ⟨r1, r2⟩ := sh_bits q1 q2
    exact ⟨b + 4, by omega, r1, r2, by rw [q3]; congr 2; omega⟩
set_option maxRecDepth 10000 in
theorem nlz33 {v w : Int} (h1 : 1 ≤ v) (h2 : v < 65536) : ∃ b : Nat, b ≤ 15 ∧ 2 ^ b ≤ v ∧ v < 2 ^ (b + 1) ∧ f_JInt_numberOfLeadingZeros_33 (iI v) (iI w) = some (iI (w - b)) := by
  unfold f_JInt_numberOfLeadingZeros_33
  simp (disch := omega) only [iI_lit, iL_lit, iI_add, iI_sub, iI_mul, iI_neg, iL_add, iL_sub, iL_mul, iL_neg, iI_lt, iI_le, iI_eq, iL_lt, iL_le, iL_eqS, iI_c, iI_ok, iI_l, iL_i, iI_low, l_ushrI, l_shlI, l_shrI, i_shlI, i_shrI, i_ushrI, iI_div, iL_div, Int.toNat_natCast, Int.reduceToNat, iI_ofNat]
  by_cases h : v < 256
  · rw [if_pos h]
    obtain ⟨b, hb, q1, q2, q3⟩ := nlz48 (w := w) h1 h
    exact ⟨b, by omega, q1, q2, q3⟩
  · rw [if_neg h]
    obtain ⟨b, hb, q1, q2, q3⟩ := nlz48 (v := v / 2 ^ 8) (w := w + -8) (by show 1 ≤ v / 256; omega) (by show v / 256 < 256; omega)
    obtain ⟨r1, r2⟩ := sh_bits q1 q2
    exact ⟨b + 8, by omega, r1, r2, by rw [q3]; congr 2; omega⟩
set_option maxRecDepth 10000 in
def isBL (N : Int) (b : Nat) : Prop := N < 2 ^ b ∧ (0 < b → 2 ^ (b - 1) ≤ N)
set_option maxRecDepth 10000 in
theorem isBL_zero : isBL 0 0 := ⟨by decide, fun h => absurd h (by omega)⟩
set_option maxRecDepth 10000 in
theorem isBL_uniq {N : Int} {a b : Nat} (hN : 0 ≤ N) (h1 : isBL N a) (h2 : isBL N b) : a = b := by
  rcases Nat.lt_trichotomy a b with q | q | q
  · have := h2.2 (by omega)
    have := h1.1
    have := p2_mono (show a ≤ b - 1 by omega)
    omega
  · exact q
  · have := h1.2 (by omega)
    have := h2.1
    have := p2_mono (show b ≤ a - 1 by omega)
    omega
set_option maxRecDepth 10000 in
theorem nlzI_spec {v : Int} (h1 : 0 ≤ v) (h2 : v < 4294967296) : ∃ b : Nat, b ≤ 32 ∧ isBL v b ∧ f_JInt_numberOfLeadingZeros (iI v) = some (iI (32 - b)) := by
  unfold f_JInt_numberOfLeadingZeros
  by_cases hbig : v < 2147483648
  · simp (disch := omega) only [iI_lit, iL_lit, iI_add, iI_sub, iI_mul, iI_neg, iL_add, iL_sub, iL_mul, iL_neg, iI_lt, iI_le, iI_eq, iL_lt, iL_le, iL_eqS, iI_c, iI_ok, iI_l, iL_i, iI_low, l_ushrI, l_shlI, l_shrI, i_shlI, i_shrI, i_ushrI, iI_div, iL_div, Int.toNat_natCast, Int.reduceToNat, iI_ofNat]
    by_cases h0 : 0 < v
    · rw [if_pos h0]
      by_cases h : v < 65536
      · rw [if_pos h]
        obtain ⟨b, hb, q1, q2, q3⟩ := nlz33 (w := 31) h0 h
        exact ⟨b + 1, by omega, ⟨q2, fun _ => q1⟩, by rw [q3]; congr 2; omega⟩
      · rw [if_neg h]
        obtain ⟨b, hb, q1, q2, q3⟩ := nlz33 (v := v / 2 ^ 16) (w := 31 + -16) (by show 1 ≤ v / 65536; omega) (by show v / 65536 < 65536; omega)
        obtain ⟨r1, r2⟩ := sh_bits q1 q2
        exact ⟨b + 16 + 1, by omega, ⟨r2, fun _ => r1⟩, by rw [q3]; congr 2; omega⟩
    · obtain rfl : v = 0 := by omega
      rw [if_neg h0, if_pos rfl]
      exact ⟨0, by omega, isBL_zero, rfl⟩
  · have e : iI v = iI (v - 4294967296) := by rw [← iI_emod v, ← iI_emod (v - 4294967296)]; congr 1; omega
    rw [e]
    simp (disch := omega) only [iI_lit, iL_lit, iI_add, iI_sub, iI_mul, iI_neg, iL_add, iL_sub, iL_mul, iL_neg, iI_lt, iI_le, iI_eq, iL_lt, iL_le, iL_eqS, iI_c, iI_ok, iI_l, iL_i, iI_low, l_ushrI, l_shlI, l_shrI, i_shlI, i_shrI, i_ushrI, iI_div, iL_div, Int.toNat_natCast, Int.reduceToNat, iI_ofNat]
    rw [if_neg (by omega), if_neg (by omega)]
    exact ⟨32, by omega, ⟨h2, fun _ => by show 2147483648 ≤ v; omega⟩, rfl⟩
set_option maxRecDepth 10000 in
theorem bl_spec {sz : Int32} {c : Nat → Int32} {N : Int} (h : BR sz c N) : ∃ b : Nat, b ≤ 3072 ∧ isBL N b ∧ f_Bg_bitLength sz c = some (iI b) := by
  obtain ⟨s, rfl, hs, htop, rfl⟩ := h
  unfold f_Bg_bitLength
  simp (disch := omega) only [iI_lit, iL_lit, iI_add, iI_sub, iI_mul, iI_neg, iL_add, iL_sub, iL_mul, iL_neg, iI_lt, iI_le, iI_eq, iL_lt, iL_le, iL_eqS, iI_c, iI_ok, iI_l, iL_i, iI_low, l_ushrI, l_shlI, l_shrI, i_shlI, i_shrI, i_ushrI, iI_div, iL_div, Int.toNat_natCast, Int.reduceToNat, iI_ofNat]
  by_cases h0 : s = 0
  · subst h0
    rw [if_pos (by omega)]
    exact ⟨0, by omega, isBL_zero, rfl⟩
  · rw [if_neg (by omega), if_pos (by omega)]
    have et : ((s : Int) - 1).toNat = s - 1 := by omega
    rw [et]
    have hu := u3_l (c (s - 1))
    have hu0 := u3_0 (c (s - 1))
    obtain ⟨b, hb, ⟨q1, q2⟩, q3⟩ := nlzI_spec hu0 hu
    rw [i_u3] at q3
    rw [q3]
    have hne : 0 < u3 (c (s - 1)) := by
      rcases Decidable.em (u3 (c (s - 1)) = 0) with q | q
      · exact absurd (u3_eq0.mpr q) (htop (by omega))
      · omega
    have hb0 : 0 < b := by
      rcases Nat.eq_zero_or_pos b with q | q
      · subst q; rw [Int.pow_zero] at q1; omega
      · exact q
    obtain ⟨t, rfl⟩ : ∃ t, s = t + 1 := ⟨s - 1, by omega⟩
    simp only [Nat.add_sub_cancel] at *
    refine ⟨32 * t + b, by omega, ⟨?_, fun _ => ?_⟩, ?_⟩
    · rw [bv, Int.pow_add, Int.mul_comm (2 ^ (32 * t) : Int)]
      have := bv_lt c t
      have : (u3 (c t) + 1) * 2 ^ (32 * t) ≤ 2 ^ b * 2 ^ (32 * t) := Int.mul_le_mul_of_nonneg_right (by omega) (Int.le_of_lt (p2_pos _))
      rw [Int.add_mul] at this
      omega
    · rw [bv, show 32 * t + b - 1 = (b - 1) + 32 * t by omega, Int.pow_add]
      have := bv_nn c t
      have := Int.mul_le_mul_of_nonneg_right (q2 hb0) (Int.le_of_lt (p2_pos (32 * t)))
      omega
    · simp only [Option.bind_some]
      simp (disch := omega) only [iI_lit, iL_lit, iI_add, iI_sub, iI_mul, iI_neg, iL_add, iL_sub, iL_mul, iL_neg, iI_lt, iI_le, iI_eq, iL_lt, iL_le, iL_eqS, iI_c, iI_ok, iI_l, iL_i, iI_low, l_ushrI, l_shlI, l_shrI, i_shlI, i_shrI, i_ushrI, iI_div, iL_div, Int.toNat_natCast, Int.reduceToNat, iI_ofNat]
      congr 2
      omega
