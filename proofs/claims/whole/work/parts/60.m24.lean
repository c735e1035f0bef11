-- XT
set_option maxRecDepth 10000 in
abbrev whP (pr : Int) : Prop := pr < 0 ∨ 13 ≤ pr
set_option maxRecDepth 10000 in
def HXT (c q pr : Int) (T : List Int32) : Prop :=
  (c = 0 ∧ T = fracT 0 (if whP pr then 1 else (max pr 1).toNat) 0) ∨
  (0 < c ∧ ∃ b : Nat, isBL c b ∧ (if whP pr then ∃ n, hexN (c * 2 ^ (min (53 - (b : Int)) (q + 1074)).toNat % 4503599627370496) n ∧ T = fracT (c * 2 ^ (min (53 - (b : Int)) (q + 1074)).toNat / 16 ^ (13 - n)) n (q - min (53 - (b : Int)) (q + 1074) + 52) else T = rndT (c * 2 ^ (53 - b)) (max pr 1).toNat (q - (53 - (b : Int)) + 52)))
set_option maxRecDepth 10000 in
theorem HXT_uniq {c q pr : Int} {T T' : List Int32} (h : HXT c q pr T) (h' : HXT c q pr T') : T = T' := by
  rcases h with ⟨h0, h1⟩ | ⟨h0, b, hb, h1⟩
  · rcases h' with ⟨_, h2⟩ | ⟨h2, _⟩
    · rw [h1, h2]
    · omega
  · rcases h' with ⟨h2, _⟩ | ⟨_, b', hb', h2⟩
    · omega
    · have eb : b = b' := isBL_uniq (by omega) hb hb'
      subst eb
      by_cases q : whP pr
      · rw [if_pos q] at h1 h2
        obtain ⟨n, g1, rfl⟩ := h1
        obtain ⟨n', g2, rfl⟩ := h2
        have := hexN_uniq g1 g2
        subst this
        rfl
      · rw [if_neg q] at h1 h2
        rw [h1, h2]
set_option maxRecDepth 10000 in
theorem dig16 {t f : Int} (f0 : 0 ≤ f) {k : Nat} (hk : k ≤ 12) : (t * 4503599627370496 + f) / 16 ^ k % 16 = f / 16 ^ k % 16 := by
  have hp := p16_pos k
  have e : (4503599627370496 : Int) = 16 ^ (12 - k) * 16 * 16 ^ k := by
    rw [Int.mul_assoc, Int.mul_comm 16, ← Int.mul_assoc, ← Int.pow_add, show 12 - k + k = 12 by omega]; decide
  rw [e, ← Int.mul_assoc, Int.add_comm, Int.add_mul_ediv_right _ _ (by omega), ← Int.mul_assoc]
  rw [Int.add_mul_emod_self_right]
set_option maxRecDepth 10000 in
theorem mhx_zero (n : Nat) : ∀ j, j < n → (0 : Int) / 16 ^ j % 16 = 0 / 16 ^ (13 - n + j) % 16 := by
  intro j hj; rw [Int.zero_ediv, Int.zero_ediv]
set_option maxRecDepth 10000 in
theorem mhx66 {S : Int} {v5 : Int} {n0 : Nat} {v4 : Int32} (s0 : 0 ≤ S) (s1 : S < 9218868437227405312) (hv : v5 = 1 ∨ (v5 = 0 ∧ S = 0)) (hn0 : v5 = 0 → v4 = iI n0 ∧ 1 ≤ n0 ∧ n0 ≤ 12) {bl : Int32} (sp : Nat → Int32) {bc : Nat → Int32} {E : List Int32} (h : TP bl bc E) (hE : E.length + 60 < 12000) :
    ∃ bl' sp' bc' n, f_Md_hexadecimal2_66 (iL S) v4 (iI v5) (iL (S % 4503599627370496)) (iI (S / 4503599627370496)) bl sp bc = some (bl', sp', bc') ∧ (if v5 = 0 then n = n0 else hexN (S % 4503599627370496) n) ∧ TP bl' bc' (E ++ fracT (((if 0 < S / 4503599627370496 then 4503599627370496 else 0) + S % 4503599627370496) / 16 ^ (13 - n)) n (if S = 0 then 0 else if 0 < S / 4503599627370496 then S / 4503599627370496 - 1023 else -1022)) := by
  have hfu := fu_pos
  generalize hf : S % 4503599627370496 = f
  generalize he : S / 4503599627370496 = e
  have f0 : 0 ≤ f := by omega
  have f1 : f < 4503599627370496 := by omega
  have e0 : 0 ≤ e := by omega
  have e1 : e ≤ 2046 := by omega
  unfold f_Md_hexadecimal2_66
  -- one road for both first digits
  have top : ∃ bl' sp' bc' n, f_Md_hexadecimal2_79 (iL S) v4 (iI v5) (iL f) (iI e) (iI (if 0 < e then 49 else 48)) bl sp bc = some (bl', sp', bc') ∧ (if v5 = 0 then n = n0 else hexN f n) ∧ TP bl' bc' (E ++ fracT (((if 0 < e then 4503599627370496 else 0) + f) / 16 ^ (13 - n)) n (if S = 0 then 0 else if 0 < e then e - 1023 else -1022)) := by
    unfold f_Md_hexadecimal2_79 f_Md_hexadecimal2_100
    obtain ⟨b1, c1, x1, h1⟩ := madd_i h (by omega) (a := if 0 < e then 49 else 48) (by split <;> omega) (by split <;> omega)
    rw [x1, Option.bind_some]
    dsimp only
    obtain ⟨b2, c2, x2, h2⟩ := madd_i h1 (by simp; omega) (a := 46) (by omega) (by omega)
    rw [show (46 : Int32) = iI 46 from rfl, x2, Option.bind_some]
    dsimp only
    have hend : ∀ (sp : Nat → Int32) (bl : Int32) (bc : Nat → Int32), (if iL S = (0 : Int64) then (f_Md_hexadecimal2_210 (0 : Int32) bl sp bc) else (if iI e ≤ 0 then (f_Md_hexadecimal2_210 (-1022 : Int32) bl sp bc) else (f_Md_hexadecimal2_210 (iI e - (1023 : Int32)) bl sp bc))) = f_Md_hexadecimal2_210 (iI (if S = 0 then 0 else if 0 < e then e - 1023 else -1022)) bl sp bc := by
      intro sp bl bc
      by_cases q : S = 0
      · rw [if_pos (show iL S = 0 from by rw [q]; rfl), if_pos q]; rfl
      · rw [if_neg (show ¬ iL S = 0 from by rw [show (0 : Int64) = iL 0 from rfl, iL_eqU (by omega) (by omega) (by omega) (by omega)]; exact q), if_neg q]
        by_cases w : 0 < e
        · rw [if_neg (show ¬ iI e ≤ 0 from by simp (disch := omega) only [iI_lit, iL_lit, iI_add, iI_sub, iI_mul, iI_neg, iL_add, iL_sub, iL_mul, iL_neg, iI_lt, iI_le, iI_eq, iL_lt, iL_le, iL_eqS, iI_c, iI_ok, iI_l, iL_i, iI_low, l_ushrI, l_shlI, l_shrI, i_shlI, i_shrI, i_ushrI, iI_div, iL_div, Int.toNat_natCast, Int.reduceToNat, iI_ofNat]; omega), if_pos w, show (1023 : Int32) = iI 1023 from rfl, iI_sub]
        · rw [if_pos (show iI e ≤ 0 from by simp (disch := omega) only [iI_lit, iL_lit, iI_add, iI_sub, iI_mul, iI_neg, iL_add, iL_sub, iL_mul, iL_neg, iI_lt, iI_le, iI_eq, iL_lt, iL_le, iL_eqS, iI_c, iI_ok, iI_l, iL_i, iI_low, l_ushrI, l_shlI, l_shrI, i_shlI, i_shrI, i_ushrI, iI_div, iL_div, Int.toNat_natCast, Int.reduceToNat, iI_ofNat]; omega), if_neg w]; rfl
    have hPb : -9000 ≤ (if S = 0 then 0 else if 0 < e then e - 1023 else -1022) ∧ (if S = 0 then 0 else if 0 < e then e - 1023 else -1022) ≤ 9000 := by
      split
      · omega
      · split <;> omega
    generalize (if S = 0 then 0 else if 0 < e then e - 1023 else -1022) = P at *
    -- the digits, once their number is known
    have dig : ∀ n : Nat, 1 ≤ n → n ≤ 13 → ∃ bl' sp' bc', f_Md_hexadecimal2_138 (iL S) (iL f) (iI e) (iI n) b2 sp c2 = some (bl', sp', bc') ∧ TP bl' bc' (E ++ fracT (((if 0 < e then 4503599627370496 else 0) + f) / 16 ^ (13 - n)) n P) := by
      intro n n1 n13
      unfold f_Md_hexadecimal2_138
      have hdv : ∀ j, ((if 0 < e then 4503599627370496 else 0) + f) / 16 ^ (13 - n) / 16 ^ j = ((if 0 < e then 4503599627370496 else 0) + f) / 16 ^ (13 - n + j) := by
        intro j
        rw [Int.ediv_ediv_of_nonneg (Int.le_of_lt (p16_pos _)), ← Int.pow_add]
      have hsplit : ((if 0 < e then 4503599627370496 else 0) + f : Int) = (if 0 < e then 1 else 0) * 4503599627370496 + f := by split <;> omega
      obtain ⟨b3, s3, c3, x3, h3⟩ := mhx141 (S := S) (e := e) (m := ((if 0 < e then 4503599627370496 else 0) + f) / 16 ^ (13 - n)) (n := n) f0 f1 n13 (fun j hj => by rw [hdv, hsplit]; exact dig16 f0 (by omega)) hPb.1 hPb.2 hend n 1 gx_fu b2 sp c2 _ (by omega) (by omega) (by omega) h2 (by simp; omega)
      have x3' : f_Md_hexadecimal2_141 gx_fu (iL S) (iL f) (iI e) (iI n) (1 : Int32) b2 sp c2 = some (b3, s3, c3) := x3
      refine ⟨b3, s3, c3, x3', ?_⟩
      unfold fracT
      have htop : hxD (((if 0 < e then 4503599627370496 else 0) + f) / 16 ^ (13 - n) / 16 ^ n % 16) = iI (if 0 < e then 49 else 48) := by
        rw [hdv, show 13 - n + n = 13 by omega, show (16 : Int) ^ 13 = 4503599627370496 from by decide]
        by_cases w : 0 < e
        · rw [if_pos w, if_pos w, show (4503599627370496 + f) / 4503599627370496 % 16 = 1 by omega]; rfl
        · rw [if_neg w, if_neg w, show (0 + f) / 4503599627370496 % 16 = 0 by omega]; rfl
      rw [htop, ← List.append_assoc E, ← List.append_assoc (E ++ _)]
      exact h3
    rcases hv with rfl | ⟨rfl, rfl⟩
    · rw [if_neg (show ¬ iI 1 = 0 from by decide)]
      obtain ⟨n', hn', x4⟩ := mhx102 (S := S) (e := e) f0 f1 b2 sp c2 13 gx_fu (by omega) (by omega) (by omega) (by rw [Nat.sub_self, Int.pow_zero]; omega)
      have x4' : f_Md_hexadecimal2_102 gx_fu (iL S) (iI 1) (iL f) (iI e) (13 : Int32) b2 sp c2 = _ := x4
      rw [x4']
      obtain ⟨b3, s3, c3, x5, h5⟩ := dig n' hn'.1 hn'.2.1
      exact ⟨b3, s3, c3, n', x5, by rw [if_neg (by decide)]; exact hn', h5⟩
    · rw [if_pos (show iI 0 = 0 from rfl)]
      obtain ⟨rfl, hnn⟩ := hn0 rfl
      obtain ⟨m, hm⟩ : ∃ m, gx_fu = m + 1 := ⟨gx_fu - 1, by omega⟩
      rw [hm, f_Md_hexadecimal2_102, if_pos (show iI 0 = 0 from rfl)]
      obtain ⟨b3, s3, c3, x5, h5⟩ := dig n0 hnn.1 (by omega)
      exact ⟨b3, s3, c3, n0, x5, by rw [if_pos rfl], h5⟩
  by_cases w : 0 < e
  · rw [if_neg (show ¬ iI e ≤ 0 from by simp (disch := omega) only [iI_lit, iL_lit, iI_add, iI_sub, iI_mul, iI_neg, iL_add, iL_sub, iL_mul, iL_neg, iI_lt, iI_le, iI_eq, iL_lt, iL_le, iL_eqS, iI_c, iI_ok, iI_l, iL_i, iI_low, l_ushrI, l_shlI, l_shrI, i_shlI, i_shrI, i_ushrI, iI_div, iL_div, Int.toNat_natCast, Int.reduceToNat, iI_ofNat]; omega)]
    rw [if_pos w] at top
    rw [if_pos w] at top ⊢
    exact top
  · rw [if_pos (show iI e ≤ 0 from by simp (disch := omega) only [iI_lit, iL_lit, iI_add, iI_sub, iI_mul, iI_neg, iL_add, iL_sub, iL_mul, iL_neg, iI_lt, iI_le, iI_eq, iL_lt, iL_le, iL_eqS, iI_c, iI_ok, iI_l, iL_i, iI_low, l_ushrI, l_shlI, l_shrI, i_shlI, i_shrI, i_ushrI, iI_div, iL_div, Int.toNat_natCast, Int.reduceToNat, iI_ofNat]; omega)]
    rw [if_neg w] at top
    rw [if_neg w] at top ⊢
    exact top
-- XU
set_option maxRecDepth 10000 in
def HLK (S c q : Int) : Prop := 0 ≤ S ∧ S < 9218868437227405312 ∧ ((S = 0 ∧ c = 0) ∨ (0 < S ∧ 0 < c ∧ ∃ b : Nat, isBL c b ∧ b ≤ 53 ∧ 0 ≤ q + 1074 ∧ q ≤ 2000 ∧ (if 0 < S / 4503599627370496 then 4503599627370496 else 0) + S % 4503599627370496 = c * 2 ^ (min (53 - (b : Int)) (q + 1074)).toNat ∧ (if 0 < S / 4503599627370496 then S / 4503599627370496 - 1023 else -1022) = q - min (53 - (b : Int)) (q + 1074) + 52))
set_option maxRecDepth 10000 in
theorem mhexa2_spec {S c q pr : Int} (hL : HLK S c q) (p0 : -1 ≤ pr) (p1 : pr ≤ 9999) {bl : Int32} (sp : Nat → Int32) {bc : Nat → Int32} {E : List Int32} (h : TP bl bc E) (hE : E.length + 80 < 12000) :
    ∃ bl' sp' bc' T, f_Md_hexadecimal2 (iL S) (iI pr) bl sp bc = some (bl', sp', bc') ∧ HXT c q pr T ∧ TP bl' bc' (E ++ ([iI 48, iI 120] ++ T)) := by
  obtain ⟨s0, s1, hl⟩ := hL
  unfold f_Md_hexadecimal2
  obtain ⟨b1, c1, e1, h1⟩ := madd_i h (by omega) (a := 48) (by omega) (by omega)
  rw [show (48 : Int32) = iI 48 from rfl, e1, Option.bind_some]
  dsimp only
  obtain ⟨b2, c2, e2, h2⟩ := madd_i h1 (by simp; omega) (a := 120) (by omega) (by omega)
  rw [show (120 : Int32) = iI 120 from rfl, e2, Option.bind_some]
  dsimp only
  rw [List.append_assoc, show [iI 48] ++ [iI 120] = [iI 48, iI 120] from rfl] at h2
  have hE2 : (E ++ [iI 48, iI 120]).length + 60 < 12000 := by simp; omega
  -- up to the choice between whole and rounded
  have e39 : (if iI pr = (0 : Int32) then (f_Md_hexadecimal2_21 (iL S) (iI pr) (1 : Int32) b2 sp c2) else (f_Md_hexadecimal2_21 (iL S) (iI pr) (iI pr) b2 sp c2)) = f_Md_hexadecimal2_39 (iL S) (if pr < 0 then iI pr else iI (max pr 1)) (if whP pr then 1 else 0) b2 sp c2 := by
    have e21 : (if iI pr = (0 : Int32) then (f_Md_hexadecimal2_21 (iL S) (iI pr) (1 : Int32) b2 sp c2) else (f_Md_hexadecimal2_21 (iL S) (iI pr) (iI pr) b2 sp c2)) = f_Md_hexadecimal2_21 (iL S) (iI pr) (if pr < 0 then iI pr else iI (max pr 1)) b2 sp c2 := by
      by_cases w : pr = 0
      · rw [if_pos (show iI pr = 0 from by rw [w]; rfl), if_neg (by omega), w]; rfl
      · rw [if_neg (show ¬ iI pr = 0 from by simp (disch := omega) only [iI_lit, iL_lit, iI_add, iI_sub, iI_mul, iI_neg, iL_add, iL_sub, iL_mul, iL_neg, iI_lt, iI_le, iI_eq, iL_lt, iL_le, iL_eqS, iI_c, iI_ok, iI_l, iL_i, iI_low, l_ushrI, l_shlI, l_shrI, i_shlI, i_shrI, i_ushrI, iI_div, iL_div, Int.toNat_natCast, Int.reduceToNat, iI_ofNat]; omega)]
        by_cases v : pr < 0
        · rw [if_pos v]
        · rw [if_neg v, show max pr 1 = pr by omega]
    rw [e21]
    unfold f_Md_hexadecimal2_21 f_Md_hexadecimal2_34
    by_cases v : pr < 0
    · rw [if_pos (show iI pr < 0 from by simp (disch := omega) only [iI_lit, iL_lit, iI_add, iI_sub, iI_mul, iI_neg, iL_add, iL_sub, iL_mul, iL_neg, iI_lt, iI_le, iI_eq, iL_lt, iL_le, iL_eqS, iI_c, iI_ok, iI_l, iL_i, iI_low, l_ushrI, l_shlI, l_shrI, i_shlI, i_shrI, i_ushrI, iI_div, iL_div, Int.toNat_natCast, Int.reduceToNat, iI_ofNat]; omega), if_pos (show whP pr from Or.inl v)]
    · rw [if_neg (show ¬ iI pr < 0 from by simp (disch := omega) only [iI_lit, iL_lit, iI_add, iI_sub, iI_mul, iI_neg, iL_add, iL_sub, iL_mul, iL_neg, iI_lt, iI_le, iI_eq, iL_lt, iL_le, iL_eqS, iI_c, iI_ok, iI_l, iL_i, iI_low, l_ushrI, l_shlI, l_shrI, i_shlI, i_shrI, i_ushrI, iI_div, iL_div, Int.toNat_natCast, Int.reduceToNat, iI_ofNat]; omega), if_neg v]
      by_cases x : 13 ≤ pr
      · rw [if_neg (show ¬ iI (max pr 1) ≤ 12 from by simp (disch := omega) only [iI_lit, iL_lit, iI_add, iI_sub, iI_mul, iI_neg, iL_add, iL_sub, iL_mul, iL_neg, iI_lt, iI_le, iI_eq, iL_lt, iL_le, iL_eqS, iI_c, iI_ok, iI_l, iL_i, iI_low, l_ushrI, l_shlI, l_shrI, i_shlI, i_shrI, i_ushrI, iI_div, iL_div, Int.toNat_natCast, Int.reduceToNat, iI_ofNat]; omega), if_pos (show whP pr from Or.inr x)]
      · rw [if_pos (show iI (max pr 1) ≤ 12 from by simp (disch := omega) only [iI_lit, iL_lit, iI_add, iI_sub, iI_mul, iI_neg, iL_add, iL_sub, iL_mul, iL_neg, iI_lt, iI_le, iI_eq, iL_lt, iL_le, iL_eqS, iI_c, iI_ok, iI_l, iL_i, iI_low, l_ushrI, l_shlI, l_shrI, i_shlI, i_shrI, i_ushrI, iI_div, iL_div, Int.toNat_natCast, Int.reduceToNat, iI_ofNat]; omega), if_neg (show ¬ whP pr from fun y => by rcases y with y | y <;> omega)]
  rw [e39]
  unfold f_Md_hexadecimal2_39
  have hm : iL S &&& (4503599627370495 : Int64) = iL (S % 4503599627370496) := by
    have := iL_mask (a := S) (k := 52) s0 (by omega) (by omega)
    rw [show (2 : Int) ^ 52 = 4503599627370496 from by decide] at this
    exact this
  have hs : ((iL S).toUInt64 >>> ((52 : Int32).toInt64.toUInt64 &&& Int64.toUInt64 63)).toInt64.toInt32 = iI (S / 4503599627370496) := by
    rw [show (52 : Int32).toInt64 = iL 52 from rfl, show (63 : Int64) = iL 63 from rfl, l_ushrI (by omega) (by omega) s0 (by omega), iL_i, show (2 : Int) ^ (52 : Int).toNat = 4503599627370496 from by decide]
  rw [hm, hs]
  have hz : (iL S = (0 : Int64)) = (S = 0) := by rw [show (0 : Int64) = iL 0 from rfl, iL_eqU s0 (by omega) (by omega) (by omega)]
  simp only [hz]
  rcases hl with ⟨rfl, rfl⟩ | ⟨hS, hc, b, hb, hb53, hq0, hq1, hC, hP⟩
  · rw [if_pos rfl]
    by_cases w : whP pr
    · rw [if_pos w]
      obtain ⟨b3, s3, c3, n, e3, hn, t3⟩ := mhx66 (S := 0) (v5 := 1) (n0 := 1) (v4 := if pr < 0 then iI pr else iI (max pr 1)) (by omega) (by omega) (Or.inl rfl) (fun x => absurd x (by decide)) sp h2 hE2
      have e3' : f_Md_hexadecimal2_66 (iL 0) (if pr < 0 then iI pr else iI (max pr 1)) (1 : Int32) (iL (0 % 4503599627370496)) (iI (0 / 4503599627370496)) b2 sp c2 = some (b3, s3, c3) := e3
      refine ⟨b3, s3, c3, _, e3', Or.inl ⟨rfl, ?_⟩, by rw [← List.append_assoc]; exact t3⟩
      rw [if_neg (by decide)] at hn
      have hn1 : n = 1 := hexN_uniq hn ⟨by omega, by omega, by decide, fun x => absurd x (by omega)⟩
      subst hn1
      rw [if_pos w, if_pos rfl]
      rfl
    · rw [if_neg w]
      have hw : ¬ pr < 0 ∧ ¬ 13 ≤ pr := ⟨fun x => w (Or.inl x), fun x => w (Or.inr x)⟩
      obtain ⟨b3, s3, c3, n, e3, hn, t3⟩ := mhx66 (S := 0) (v5 := 0) (n0 := (max pr 1).toNat) (v4 := if pr < 0 then iI pr else iI (max pr 1)) (by omega) (by omega) (Or.inr ⟨rfl, rfl⟩) (fun _ => ⟨by rw [if_neg hw.1]; congr 1; omega, by omega, by omega⟩) sp h2 hE2
      have e3' : f_Md_hexadecimal2_66 (iL 0) (if pr < 0 then iI pr else iI (max pr 1)) (0 : Int32) (iL (0 % 4503599627370496)) (iI (0 / 4503599627370496)) b2 sp c2 = some (b3, s3, c3) := e3
      refine ⟨b3, s3, c3, _, e3', Or.inl ⟨rfl, ?_⟩, by rw [← List.append_assoc]; exact t3⟩
      rw [if_pos rfl] at hn
      subst hn
      rw [if_neg w, if_pos rfl]
      congr 1
      show (0 : Int) / 16 ^ (13 - (max pr 1).toNat) = 0
      exact Int.zero_ediv _
  · rw [if_neg (by omega)]
    by_cases w : whP pr
    · rw [if_pos w, if_neg (show ¬ (1 : Int32) = 0 from by decide)]
      obtain ⟨b3, s3, c3, n, e3, hn, t3⟩ := mhx66 (S := S) (v5 := 1) (n0 := 1) (v4 := if pr < 0 then iI pr else iI (max pr 1)) s0 s1 (Or.inl rfl) (fun x => absurd x (by decide)) sp h2 hE2
      have e3' : f_Md_hexadecimal2_66 (iL S) (if pr < 0 then iI pr else iI (max pr 1)) (1 : Int32) (iL (S % 4503599627370496)) (iI (S / 4503599627370496)) b2 sp c2 = some (b3, s3, c3) := e3
      rw [if_neg (by decide)] at hn
      rw [if_neg (show ¬ S = 0 by omega), hC, hP] at t3
      refine ⟨b3, s3, c3, _, e3', Or.inr ⟨hc, b, hb, ?_⟩, by rw [← List.append_assoc]; exact t3⟩
      rw [if_pos w]
      refine ⟨n, ?_, rfl⟩
      have : c * 2 ^ (min (53 - (b : Int)) (q + 1074)).toNat % 4503599627370496 = S % 4503599627370496 := by
        rw [← hC]; split <;> omega
      rw [this]; exact hn
    · rw [if_neg w, if_pos rfl]
      have hw : ¬ pr < 0 ∧ ¬ 13 ≤ pr := ⟨fun x => w (Or.inl x), fun x => w (Or.inr x)⟩
      unfold f_Md_hexadecimal2_231 f_Md_hexadecimal2_249
      have key : ∀ Cm Pm : Int, Cm = (if 0 < S / 4503599627370496 then 4503599627370496 else 0) + S % 4503599627370496 → Pm = (if 0 < S / 4503599627370496 then S / 4503599627370496 - 1023 else -1022) → ∃ bl' sp' bc' T, f_Md_hexadecimal2_251 gx_fu (if pr < 0 then iI pr else iI (max pr 1)) (iI Pm) (iL Cm) b2 sp c2 = some (bl', sp', bc') ∧ HXT c q pr T ∧ TP bl' bc' (E ++ ([iI 48, iI 120] ++ T)) := by
        intro Cm Pm hCm hPm
        rw [hC] at hCm
        rw [hP] at hPm
        have hbp := bl_pos hb hc
        have hpw : c * 2 ^ (53 - b) < 9007199254740992 ∧ 4503599627370496 ≤ c * 2 ^ (53 - b) := by
          obtain ⟨x1, x2⟩ := bl_shl (k := 53 - b) hb hbp
          rw [show b + (53 - b) = 53 by omega, show (2 : Int) ^ 53 = 9007199254740992 from by decide] at x1
          rw [show b + (53 - b) - 1 = 52 by omega, show (2 : Int) ^ 52 = 4503599627370496 from by decide] at x2
          exact ⟨x1, x2⟩
        have hsum : Cm * 2 ^ (53 - b - (min (53 - (b : Int)) (q + 1074)).toNat) = c * 2 ^ (53 - b) := by
          rw [hCm, Int.mul_assoc, ← Int.pow_add]; congr 2; omega
        have hCm0 : 0 < Cm := by rw [hCm]; exact Int.mul_pos hc (p2_pos _)
        obtain ⟨b3, s3, c3, e3, t3⟩ := mhx251 (w := (max pr 1).toNat) (by omega) (by omega) sp h2 hE2 (53 - b - (min (53 - (b : Int)) (q + 1074)).toNat) gx_fu Cm Pm hCm0 (by rw [hsum]; exact hpw.2) (by rw [hsum]; exact hpw.1) (by have := fu_pos; omega) (by omega) (by omega) (by omega)
        have ew : (if pr < 0 then iI pr else iI (max pr 1)) = iI (((max pr 1).toNat : Nat) : Int) := by rw [if_neg hw.1]; congr 1; omega
        rw [ew, e3]
        refine ⟨b3, s3, c3, _, rfl, Or.inr ⟨hc, b, hb, ?_⟩, by rw [← List.append_assoc]; exact t3⟩
        rw [if_neg w, hsum]
        congr 1
        omega
      by_cases v : 0 < S / 4503599627370496
      · rw [if_neg (show ¬ iI (S / 4503599627370496) ≤ 0 from by simp (disch := omega) only [iI_lit, iL_lit, iI_add, iI_sub, iI_mul, iI_neg, iL_add, iL_sub, iL_mul, iL_neg, iI_lt, iI_le, iI_eq, iL_lt, iL_le, iL_eqS, iI_c, iI_ok, iI_l, iL_i, iI_low, l_ushrI, l_shlI, l_shrI, i_shlI, i_shrI, i_ushrI, iI_div, iL_div, Int.toNat_natCast, Int.reduceToNat, iI_ofNat]; omega), if_neg (show ¬ iI (S / 4503599627370496) ≤ 0 from by simp (disch := omega) only [iI_lit, iL_lit, iI_add, iI_sub, iI_mul, iI_neg, iL_add, iL_sub, iL_mul, iL_neg, iI_lt, iI_le, iI_eq, iL_lt, iL_le, iL_eqS, iI_c, iI_ok, iI_l, iL_i, iI_low, l_ushrI, l_shlI, l_shrI, i_shlI, i_shrI, i_ushrI, iI_div, iL_div, Int.toNat_natCast, Int.reduceToNat, iI_ofNat]; omega), show (1023 : Int32) = iI 1023 from rfl, iI_sub]
        have hor : iL (S % 4503599627370496) ||| (4503599627370496 : Int64) = iL (4503599627370496 + S % 4503599627370496) := by
          have := iL_orK (a := 1) (b := S % 4503599627370496) 52 (by omega) (by omega) (by rw [show (2 : Int) ^ 52 = 4503599627370496 from by decide]; omega) (by rw [show (2 : Int) ^ 52 = 4503599627370496 from by decide]; omega)
          rw [show (1 : Int) * 2 ^ 52 = 4503599627370496 from by decide] at this
          rw [l_or_comm]
          exact this
        rw [hor]
        exact key _ _ (by rw [if_pos v]) (by rw [if_pos v])
      · rw [if_pos (show iI (S / 4503599627370496) ≤ 0 from by simp (disch := omega) only [iI_lit, iL_lit, iI_add, iI_sub, iI_mul, iI_neg, iL_add, iL_sub, iL_mul, iL_neg, iI_lt, iI_le, iI_eq, iL_lt, iL_le, iL_eqS, iI_c, iI_ok, iI_l, iL_i, iI_low, l_ushrI, l_shlI, l_shrI, i_shlI, i_shrI, i_ushrI, iI_div, iL_div, Int.toNat_natCast, Int.reduceToNat, iI_ofNat]; omega), if_pos (show iI (S / 4503599627370496) ≤ 0 from by simp (disch := omega) only [iI_lit, iL_lit, iI_add, iI_sub, iI_mul, iI_neg, iL_add, iL_sub, iL_mul, iL_neg, iI_lt, iI_le, iI_eq, iL_lt, iL_le, iL_eqS, iI_c, iI_ok, iI_l, iL_i, iI_low, l_ushrI, l_shlI, l_shrI, i_shlI, i_shrI, i_ushrI, iI_div, iL_div, Int.toNat_natCast, Int.reduceToNat, iI_ofNat]; omega)]
        rw [show (-1022 : Int32) = iI (-1022) from rfl]
        exact key (S % 4503599627370496) (-1022) (by rw [if_neg v, Int.zero_add]) (by rw [if_neg v])
-- XV
set_option maxRecDepth 10000 in
theorem hexN_ntz {C : Int} {k m : Nat} (hC : C = 2 ^ k * (2 * m + 1)) (h1 : C < 9007199254740992) (h0 : 0 < C) : hexN (C % 4503599627370496) (13 - min (k / 4) 12) := by
  have hk : k ≤ 52 := by
    rcases Nat.lt_or_ge 52 k with w | w
    · exfalso
      have a1 : (2 : Int) ^ 53 ≤ 2 ^ k := p2_mono w
      rw [show (2 : Int) ^ 53 = 9007199254740992 from by decide] at a1
      have a2 := Int.mul_le_mul_of_nonneg_left (show (1 : Int) ≤ 2 * m + 1 by omega) (show (0 : Int) ≤ 2 ^ k by omega)
      omega
    · exact w
  -- what divides C divides its fraction, up to 2^52
  have mod : ∀ j, j ≤ 13 → (C % 4503599627370496) % 16 ^ j = C % 16 ^ j := by
    intro j hj
    have : (16 : Int) ^ j ∣ 4503599627370496 := ⟨16 ^ (13 - j), by rw [← Int.pow_add, show j + (13 - j) = 13 by omega]; decide⟩
    exact Int.emod_emod_of_dvd C this
  have yes : ∀ j, 4 * j ≤ k → C % 16 ^ j = 0 := by
    intro j hj
    apply Int.emod_eq_zero_of_dvd
    refine ⟨2 ^ (k - 4 * j) * (2 * m + 1), ?_⟩
    rw [hC, ← p16, ← Int.mul_assoc, ← Int.pow_add, show 4 * j + (k - 4 * j) = k by omega]
  have no : ∀ j, k < 4 * j → C % 16 ^ j ≠ 0 := by
    intro j hj h
    obtain ⟨x, hx⟩ := Int.dvd_of_emod_eq_zero h
    rw [← p16, show 4 * j = k + (4 * j - k - 1 + 1) by omega, Int.pow_add, Int.pow_succ, hC, Int.mul_assoc] at hx
    have := Int.eq_of_mul_eq_mul_left (show (2 : Int) ^ k ≠ 0 from by have := p2_pos k; omega) hx
    have e : (2 : Int) ^ (4 * j - k - 1) * 2 * x = 2 * (2 ^ (4 * j - k - 1) * x) := by grind
    omega
  refine ⟨by omega, by omega, ?_, fun w => ?_⟩
  · rw [show 13 - (13 - min (k / 4) 12) = min (k / 4) 12 by omega, mod _ (by omega)]
    exact yes _ (by omega)
  · rw [show 14 - (13 - min (k / 4) 12) = k / 4 + 1 by omega, mod _ (by omega)]
    exact no _ (by omega)
set_option maxRecDepth 10000 in
theorem pwr0 : pwrE 0 = [iI 112, iI 48] := by decide
set_option maxRecDepth 10000 in
theorem hexL_0 : ∀ d, hexL 0 d = List.replicate d (iI 48)
  | 0 => rfl
  | d + 1 => by
    show hxD (0 / 16 ^ d % 16) :: hexL 0 d = _
    rw [hexL_0 d, Int.zero_ediv]
    rfl
set_option maxRecDepth 10000 in
theorem fwhole_spec {nb : Nat} (hnb : nb < 1000000) {c q : Int} {b : Nat} (c0 : 0 < c) (c1 : c < 9007199254740992) (hq0 : -1074 ≤ q) (hq1 : q ≤ 971) (hb : isBL c b) (hnl : f_JLong_numberOfLeadingZeros (iL c) = some (iI (64 - b))) {len over : Int32} {bc : Nat → Int32} {E : List Int32} (h : BY nb len over bc E) :
    ∃ len' over' bc' n, f_Pr_fillWholeFraction nb (iL c) (iI q) len over bc = some (len', over', bc') ∧ hexN (c * 2 ^ (min (53 - (b : Int)) (q + 1074)).toNat % 4503599627370496) n ∧ BY nb len' over' bc' (E ++ fracT (c * 2 ^ (min (53 - (b : Int)) (q + 1074)).toNat / 16 ^ (13 - n)) n (q - min (53 - (b : Int)) (q + 1074) + 52)) := by
  have hb53 : b ≤ 53 := bl_le hb (by rw [show (2 : Int) ^ 53 = 9007199254740992 from by decide]; exact c1)
  have hbp := bl_pos hb c0
  obtain ⟨x1, x2⟩ := bl_shl (k := (min (53 - (b : Int)) (q + 1074)).toNat) hb hbp
  have hCl : c * 2 ^ (min (53 - (b : Int)) (q + 1074)).toNat < 9007199254740992 := by
    have : (2 : Int) ^ (b + (min (53 - (b : Int)) (q + 1074)).toNat) ≤ 2 ^ 53 := p2_mono (by omega)
    rw [show (2 : Int) ^ 53 = 9007199254740992 from by decide] at this
    omega
  have hC0 : 0 < c * 2 ^ (min (53 - (b : Int)) (q + 1074)).toNat := Int.mul_pos c0 (p2_pos _)
  unfold f_Pr_fillWholeFraction
  rw [hnl, Option.bind_some, show ((gx_sz 1).getD 0 0 : Int32) = iI (-1074) from rfl, show (11 : Int32) = iI 11 from rfl, iI_sub, iI_sub, show (64 : Int) - b - 11 = 53 - b by omega, show q - -1074 = q + 1074 by omega, min_spec (by omega) (by omega) (by omega) (by omega), Option.bind_some]
  rw [iI_l (by omega) (by omega), show (63 : Int64) = iL 63 from rfl, l_shlI (by omega) (by omega)]
  obtain ⟨k, m, hk, hkm, hnt⟩ := ntzL_spec hC0 (by omega)
  have hN := hexN_ntz hkm hCl hC0
  generalize hSh : min (53 - (b : Int)) (q + 1074) = sh at *
  generalize hCC : c * 2 ^ sh.toNat = C at *
  have hk52 : k < 64 := hk
  rw [hnt, Option.bind_some, show (4 : Int32) = iI 4 from rfl, show (12 : Int32) = iI 12 from rfl, iI_div (by omega) (by omega) (by omega) (by omega), min_spec (by omega) (by omega) (by omega) (by omega), Option.bind_some]
  rw [iI_mul, iI_l (by omega) (by omega), l_ushrI (by omega) (by omega) (by omega) (by omega), show (4 * min ((k : Int) / 4) 12).toNat = 4 * min (k / 4) 12 by omega, p16]
  rw [show (13 : Int32) = iI 13 from rfl, show (52 : Int32) = iI 52 from rfl, iI_sub, iI_sub, iI_add, show (13 : Int) - min ((k : Int) / 4) 12 = ((13 - min (k / 4) 12 : Nat) : Int) by omega]
  have hd0 : 0 ≤ C / 16 ^ (min (k / 4) 12) := Int.ediv_nonneg (by omega) (Int.le_of_lt (p16_pos _))
  have hdl : C / 16 ^ (min (k / 4) 12) ≤ C := Int.ediv_le_self _ (by omega)
  obtain ⟨l1, o1, c2, e1, b1⟩ := frac_spec hnb (m := C / 16 ^ (min (k / 4) 12)) (p := q - sh + 52) (d := 13 - min (k / 4) 12) hd0 (by omega) (by omega) (by omega) (by omega) (by omega) h
  rw [e1, Option.bind_some]
  refine ⟨l1, o1, c2, _, rfl, hN, ?_⟩
  rw [show 13 - (13 - min (k / 4) 12) = min (k / 4) 12 by omega]
  exact b1
set_option maxRecDepth 10000 in
theorem fround_spec {nb : Nat} (hnb : nb < 1000000) {c q : Int} {b w : Nat} (hw0 : 1 ≤ w) (hw : w ≤ 12) (c0 : 0 < c) (c1 : c < 9007199254740992) (hq0 : -1074 ≤ q) (hq1 : q ≤ 971) (hb : isBL c b) (hnl : f_JLong_numberOfLeadingZeros (iL c) = some (iI (64 - b))) {len over : Int32} {bc : Nat → Int32} {E : List Int32} (h : BY nb len over bc E) :
    ∃ len' over' bc', f_Pr_fillRoundedFraction (iI w) nb (iL c) (iI q) len over bc = some (len', over', bc') ∧ BY nb len' over' bc' (E ++ rndT (c * 2 ^ (53 - b)) w (q - (53 - (b : Int)) + 52)) := by
  have hb53 : b ≤ 53 := bl_le hb (by rw [show (2 : Int) ^ 53 = 9007199254740992 from by decide]; exact c1)
  have hbp := bl_pos hb c0
  obtain ⟨x1, x2⟩ := bl_shl (k := 53 - b) hb hbp
  rw [show b + (53 - b) = 53 by omega, show (2 : Int) ^ 53 = 9007199254740992 from by decide] at x1
  rw [show b + (53 - b) - 1 = 52 by omega, show (2 : Int) ^ 52 = 4503599627370496 from by decide] at x2
  obtain ⟨r0, r1⟩ := rnd_b hw0 hw x2 x1
  have hq := p16_pos w
  have hq2 : (16 : Int) ^ w ≤ 16 ^ 12 := by rw [← p16, ← p16]; exact p2_mono (by omega)
  rw [show (16 : Int) ^ 12 = 281474976710656 from by decide] at hq2
  unfold f_Pr_fillRoundedFraction f_Pr_fillRoundedFraction_67 rndT
  rw [hnl, Option.bind_some, show (11 : Int32) = iI 11 from rfl, iI_sub, show (64 : Int) - b - 11 = 53 - b by omega, iI_l (by omega) (by omega), show (63 : Int64) = iL 63 from rfl, l_shlI (by omega) (by omega), show (53 - (b : Int)).toNat = 53 - b by omega]
  rw [show (52 : Int32) = iI 52 from rfl, show (4 : Int32) = iI 4 from rfl, iI_mul, iI_sub, show (52 : Int) - 4 * (w : Int) = ((52 - 4 * w : Nat) : Int) by omega, ne_spec (by omega) (by omega) (by omega) (by omega), Option.bind_some]
  generalize neV (c * 2 ^ (53 - b)) (52 - 4 * w) = T at *
  have hTd : 0 ≤ T / 16 ^ w := Int.ediv_nonneg (by omega) (by omega)
  have hTl : T / 16 ^ w ≤ T := Int.ediv_le_self _ (by omega)
  rw [iI_l (by omega) (by omega), l_ushrI (by omega) (by omega) (by omega) (by omega), show (4 * (w : Int)).toNat = 4 * w by omega, p16]
  have hle1 : (iL (T / 16 ^ w) ≤ (1 : Int64)) = (T / 16 ^ w ≤ 1) := by rw [show (1 : Int64) = iL 1 from rfl, iL_le (by omega) (by omega) (by omega) (by omega)]
  simp only [hle1]
  have hT2 : T / 16 ^ w ≤ 2 := by
    have := Int.ediv_le_ediv hq r1
    rw [Int.mul_ediv_cancel _ (by omega)] at this
    exact this
  rw [iI_sub, iI_add]
  by_cases v : T / 16 ^ w = 2
  · rw [if_neg (by omega), if_pos v, show (1 : Int32).toInt64 = iL 1 from rfl, show (1 : Int32) = iI 1 from rfl, l_ushrI (by omega) (by omega) (by omega) (by omega), iI_add, show (2 : Int) ^ (1 : Int).toNat = 2 from rfl]
    obtain ⟨l1, o1, c2, e1, b1⟩ := frac_spec hnb (m := T / 2) (p := q - (53 - (b : Int)) + 52 + 1) (d := w) (by omega) (by omega) (by omega) (by omega) (by omega) (by omega) h
    rw [e1, Option.bind_some]
    exact ⟨l1, o1, c2, rfl, b1⟩
  · rw [if_pos (by omega), if_neg v]
    obtain ⟨l1, o1, c2, e1, b1⟩ := frac_spec hnb (m := T) (p := q - (53 - (b : Int)) + 52) (d := w) (by omega) (by omega) (by omega) (by omega) (by omega) (by omega) h
    rw [e1, Option.bind_some]
    exact ⟨l1, o1, c2, rfl, b1⟩
set_option maxRecDepth 10000 in
theorem fhex31 {nh nb : Nat} {pr : Int} (p0 : -1 ≤ pr) (p1 : pr ≤ 9999) (l1 : Int32) (c : Int64) (q bl bo o1 : Int32) (c2 bc : Nat → Int32) : (if iI pr = (-1 : Int32) then (f_Pr_fillHexadecimal_26 nh nb l1 (iI pr) c q bl bo o1 c2 bc) else (if iI pr < (13 : Int32) then (f_Pr_fillHexadecimal_31 (0 : Int32) nh nb l1 (iI pr) c q bl bo o1 c2 bc) else (f_Pr_fillHexadecimal_26 nh nb l1 (iI pr) c q bl bo o1 c2 bc))) = f_Pr_fillHexadecimal_31 (if whP pr then 1 else 0) nh nb l1 (iI pr) c q bl bo o1 c2 bc := by
  unfold f_Pr_fillHexadecimal_26
  by_cases v : pr = -1
  · rw [if_pos (show iI pr = -1 from by rw [v]; rfl), if_pos (show whP pr from Or.inl (by omega))]
  · rw [if_neg (show ¬ iI pr = -1 from by simp (disch := omega) only [iI_lit, iL_lit, iI_add, iI_sub, iI_mul, iI_neg, iL_add, iL_sub, iL_mul, iL_neg, iI_lt, iI_le, iI_eq, iL_lt, iL_le, iL_eqS, iI_c, iI_ok, iI_l, iL_i, iI_low, l_ushrI, l_shlI, l_shrI, i_shlI, i_shrI, i_ushrI, iI_div, iL_div, Int.toNat_natCast, Int.reduceToNat, iI_ofNat]; omega)]
    by_cases x : 13 ≤ pr
    · rw [if_neg (show ¬ iI pr < 13 from by simp (disch := omega) only [iI_lit, iL_lit, iI_add, iI_sub, iI_mul, iI_neg, iL_add, iL_sub, iL_mul, iL_neg, iI_lt, iI_le, iI_eq, iL_lt, iL_le, iL_eqS, iI_c, iI_ok, iI_l, iL_i, iI_low, l_ushrI, l_shlI, l_shrI, i_shlI, i_shrI, i_ushrI, iI_div, iL_div, Int.toNat_natCast, Int.reduceToNat, iI_ofNat]; omega), if_pos (show whP pr from Or.inr x)]
    · rw [if_pos (show iI pr < 13 from by simp (disch := omega) only [iI_lit, iL_lit, iI_add, iI_sub, iI_mul, iI_neg, iL_add, iL_sub, iL_mul, iL_neg, iI_lt, iI_le, iI_eq, iL_lt, iL_le, iL_eqS, iI_c, iI_ok, iI_l, iL_i, iI_low, l_ushrI, l_shlI, l_shrI, i_shlI, i_shrI, i_ushrI, iI_div, iL_div, Int.toNat_natCast, Int.reduceToNat, iI_ofNat]; omega), if_neg (show ¬ whP pr from fun y => by rcases y with y | y <;> omega)]
set_option maxRecDepth 10000 in
theorem frac0 (k : Nat) : fracT 0 k 0 = [] ++ gl_byt.getD 17 [] ++ List.replicate k (sb 48) ++ gl_byt.getD 18 [] := by
  unfold fracT
  rw [hexL_0, pwr0, Int.zero_ediv, show gl_byt.getD 17 [] = [iI 48, iI 46] from by decide, show gl_byt.getD 18 [] = [iI 112, iI 48] from by decide, show sb 48 = iI 48 from by decide, show hxD (0 % 16) = iI 48 from by decide]
  simp
set_option maxRecDepth 10000 in
theorem fhex78 {nb : Nat} (hnb : nb < 1000000) {k : Nat} (hk : k ≤ 20000) {bl bo : Int32} {bc : Nat → Int32} (hB : BY nb bl bo bc []) (nh : Nat) (l1 pr q o1 : Int32) (c : Int64) (c2 : Nat → Int32) :
    ∃ l2 o2 c3 bl' bo' bc', f_By_addString 17 nb bl bo bc = some (l2, o2, c3) ∧ f_Pr_fillHexadecimal_78 (iI k) (48 : Int32) nh nb l1 pr c q l2 o2 o1 c2 c3 = some (l1, bl', bo', o1, c2, bc') ∧ BY nb bl' bo' bc' (fracT 0 k 0) := by
  obtain ⟨l2, o2, c3, e2, b2⟩ := astr_spec (o := 17) (by omega) (by decide) hB
  obtain ⟨l3, o3, c4, e3, b3⟩ := atimes_spec (n := nb) (by omega) b2 (48 : Int32) (k := (k : Int)) (by omega) (by omega)
  obtain ⟨l4, o4, c5, e4, b4⟩ := astr_spec (o := 18) (by omega) (by decide) b3
  refine ⟨l2, o2, c3, l4, o4, c5, e2, ?_, ?_⟩
  · unfold f_Pr_fillHexadecimal_78
    rw [e3, Option.bind_some, e4, Option.bind_some]
  · rw [frac0, ← Int.toNat_natCast k]
    exact b4
set_option maxRecDepth 10000 in
theorem fhex_spec {nh nb : Nat} (hnh : nh < 1000000) (hnb : nb < 1000000) {c q pr : Int} (c0 : 0 ≤ c) (c1 : c < 9007199254740992) (hq0 : -1074 ≤ q) (hq1 : q ≤ 971) (p0 : -1 ≤ pr) (p1 : pr ≤ 9999) {hl ho bl bo : Int32} {hc bc : Nat → Int32} {H : List Int32} (hH : BY nh hl ho hc H) (hB : BY nb bl bo bc []) :
    ∃ hl' ho' bl' bo' hc' bc' T, f_Pr_fillHexadecimal nh nb hl (iI pr) (iL c) (iI q) bl bo ho hc bc = some (hl', bl', bo', ho', hc', bc') ∧ BY nh hl' ho' hc' (H ++ [iI 48, iI 120]) ∧ HXT c q pr T ∧ BY nb bl' bo' bc' T := by
  unfold f_Pr_fillHexadecimal
  obtain ⟨l1, o1, c2, e1, b1⟩ := astr_spec (o := 16) (by omega) (by decide) hH
  rw [show gl_byt.getD 16 [] = [iI 48, iI 120] from by decide] at b1
  rw [e1, Option.bind_some]
  dsimp only
  rw [fhex31 p0 p1]
  unfold f_Pr_fillHexadecimal_31
  have hmx : f_JMath_max (iI pr) (1 : Int32) = some (iI (max pr 1)) := max_spec (a := pr) (b := 1) (by omega) (by omega) (by omega) (by omega)
  rw [hmx, Option.bind_some]
  have hz : (iL c = (0 : Int64)) = (c = 0) := by rw [show (0 : Int64) = iL 0 from rfl, iL_eqU c0 (by omega) (by omega) (by omega)]
  simp only [hz]
  by_cases qc : c = 0
  · rw [if_pos qc]
    by_cases w : whP pr
    · obtain ⟨l2, o2, c3, x3, x4, x6, e2, y1, y4⟩ := fhex78 hnb (k := 1) (by omega) hB nh l1 (iI pr) (iI q) o1 (iL c) c2
      rw [if_pos w, e2, Option.bind_some, if_neg (show ¬ (1 : Int32) = 0 from by decide)]
      exact ⟨l1, o1, x3, x4, c2, x6, _, y1, b1, Or.inl ⟨qc, by rw [if_pos w]⟩, y4⟩
    · obtain ⟨l2, o2, c3, x3, x4, x6, e2, y1, y4⟩ := fhex78 hnb (k := (max pr 1).toNat) (by omega) hB nh l1 (iI pr) (iI q) o1 (iL c) c2
      rw [show (((max pr 1).toNat : Nat) : Int) = max pr 1 by omega] at y1
      rw [if_neg w, e2, Option.bind_some, if_pos rfl]
      exact ⟨l1, o1, x3, x4, c2, x6, _, y1, b1, Or.inl ⟨qc, by rw [if_neg w]⟩, y4⟩
  · rw [if_neg qc]
    obtain ⟨b, _, hb, hnl⟩ := nlzL_spec (v := c) c0 (by omega)
    by_cases w : whP pr
    · rw [if_pos w, if_neg (show ¬ (1 : Int32) = 0 from by decide)]
      obtain ⟨l2, o2, c3, n, e2, hn, b2⟩ := fwhole_spec hnb (by omega) c1 hq0 hq1 hb hnl hB
      rw [e2, Option.bind_some]
      exact ⟨_, _, _, _, _, _, _, rfl, b1, Or.inr ⟨by omega, b, hb, by rw [if_pos w]; exact ⟨n, hn, rfl⟩⟩, b2⟩
    · rw [if_neg w, if_pos rfl]
      have hw : ¬ pr < 0 ∧ ¬ 13 ≤ pr := ⟨fun x => w (Or.inl x), fun x => w (Or.inr x)⟩
      obtain ⟨l2, o2, c3, e2, b2⟩ := fround_spec (w := (max pr 1).toNat) hnb (by omega) (by omega) (by omega) c1 hq0 hq1 hb hnl hB
      rw [show (((max pr 1).toNat : Nat) : Int) = max pr 1 by omega] at e2
      rw [e2, Option.bind_some]
      exact ⟨_, _, _, _, _, _, _, rfl, b1, Or.inr ⟨by omega, b, hb, by rw [if_neg w]; rfl⟩, b2⟩
-- XW
set_option maxRecDepth 10000 in
theorem HLK_0 {z : Int} (z0 : 0 ≤ z) (z1 : z < 9218868437227405312) : HLK z (mC 0 z) (mQ 0 z) := by
  have hP : (2 : Int) ^ (szD 0 - 1) = 4503599627370496 := by decide
  have hL : szL 0 = -1074 := rfl
  refine ⟨z0, z1, ?_⟩
  by_cases q : z = 0
  · left
    refine ⟨q, ?_⟩
    unfold mC; rw [hP, if_pos (by omega)]; exact q
  · right
    by_cases w : z < 4503599627370496
    · have ec : mC 0 z = z := by unfold mC; rw [hP, if_pos w]
      have eq : mQ 0 z = -1074 := by unfold mQ; rw [hP, if_pos (by omega), hL]
      obtain ⟨b, _, hb, _⟩ := nlzL_spec (v := z) z0 (by omega)
      have hb52 : b ≤ 52 := bl_le hb (by rw [show (2 : Int) ^ 52 = 4503599627370496 from by decide]; exact w)
      rw [ec, eq]
      refine ⟨by omega, by omega, b, hb, by omega, by omega, by omega, ?_, ?_⟩
      · rw [if_neg (by omega), show (min (53 - (b : Int)) (-1074 + 1074)).toNat = 0 by omega, Int.pow_zero]; omega
      · rw [if_neg (by omega)]; omega
    · have ec : mC 0 z = z % 4503599627370496 + 4503599627370496 := by unfold mC; rw [hP, if_neg w]
      have eq : mQ 0 z = -1074 + z / 4503599627370496 - 1 := by unfold mQ; rw [hP, if_neg (by omega), hL]
      have hb : isBL (z % 4503599627370496 + 4503599627370496) 53 := by
        refine ⟨?_, fun _ => ?_⟩
        · rw [show (2 : Int) ^ 53 = 9007199254740992 from by decide]; omega
        · rw [show (2 : Int) ^ (53 - 1) = 4503599627370496 from by decide]; omega
      rw [ec, eq]
      refine ⟨by omega, by omega, 53, hb, by omega, by omega, by omega, ?_, ?_⟩
      · rw [if_pos (by omega), show (min (53 - ((53 : Nat) : Int)) (-1074 + z / 4503599627370496 - 1 + 1074)).toNat = 0 by omega, Int.pow_zero]; omega
      · rw [if_pos (by omega)]; omega
set_option maxRecDepth 10000 in
theorem wid29 {bi le : Int32} : ∀ (j n : Nat) (c e : Int), 0 < c → 8388608 ≤ c * 2 ^ j → c * 2 ^ j < 16777216 → j < n → j ≤ 30 → 100 ≤ e - j → e ≤ 2000 → f_Md_widened_29 n (iL c) (iI e) bi le = some (iL ((e - j) * 4503599627370496 + (c * 2 ^ j - 8388608) * 536870912)) := by
  intro j
  induction j with
  | zero =>
    intro n c e hc h0 h1 hn hj e0 e1
    obtain ⟨n, rfl⟩ : ∃ k, n = k + 1 := ⟨n - 1, by omega⟩
    rw [Int.pow_zero, Int.mul_one] at h0 h1 ⊢
    rw [f_Md_widened_29, show (23 : Int32).toInt64 = iL 23 from rfl]
    have hz := shr0 (m := c) (by omega) (by omega) (show (0 : Int) ≤ 23 by omega) (show (23 : Int) < 64 by omega)
    simp only [hz]
    rw [if_neg (show ¬ c < 2 ^ (23 : Int).toNat by rw [show (2 : Int) ^ (23 : Int).toNat = 8388608 from by decide]; omega)]
    have hm : iL c &&& (8388607 : Int64) = iL (c - 8388608) := by
      have := iL_mask (a := c) (k := 23) (by omega) (by omega) (by omega)
      rw [show (2 : Int) ^ 23 = 8388608 from by decide] at this
      rw [show (8388607 : Int64) = iL (8388608 - 1) from rfl, this, show c % 8388608 = c - 8388608 by omega]
    rw [hm, show (52 : Int32).toInt64 = iL 52 from rfl, show (29 : Int32).toInt64 = iL 29 from rfl, show (63 : Int64) = iL 63 from rfl, iI_l (by omega) (by omega), l_shlI (by omega) (by omega), l_shlI (by omega) (by omega), show (52 : Int).toNat = 52 from rfl, show (2 : Int) ^ (29 : Int).toNat = 536870912 from by decide]
    rw [iL_orK 52 (by omega) (by omega) (by rw [show (2 : Int) ^ 52 = 4503599627370496 from by decide]; omega) (by rw [show (2 : Int) ^ 52 = 4503599627370496 from by decide]; omega), show (2 : Int) ^ 52 = 4503599627370496 from by decide]
    congr 2
    omega
  | succ j ih =>
    intro n c e hc h0 h1 hn hj e0 e1
    obtain ⟨n, rfl⟩ : ∃ k, n = k + 1 := ⟨n - 1, by omega⟩
    have hpj := p2_pos j
    have ee : c * 2 ^ (j + 1) = c * 2 * 2 ^ j := by rw [Int.pow_succ]; grind
    rw [ee] at h0 h1 ⊢
    have hlt : c < 8388608 := by
      apply Int.not_le.mp
      intro x
      have := Int.mul_le_mul_of_nonneg_left (show (1 : Int) ≤ 2 ^ j from hpj) (show 0 ≤ c * 2 by omega)
      omega
    rw [f_Md_widened_29, show (23 : Int32).toInt64 = iL 23 from rfl]
    have hz := shr0 (m := c) (by omega) (by omega) (show (0 : Int) ≤ 23 by omega) (show (23 : Int) < 64 by omega)
    simp only [hz]
    rw [if_pos (show c < 2 ^ (23 : Int).toNat by rw [show (2 : Int) ^ (23 : Int).toNat = 8388608 from by decide]; omega)]
    rw [show (1 : Int32).toInt64 = iL 1 from rfl, show (63 : Int64) = iL 63 from rfl, l_shlI (by omega) (by omega), show (2 : Int) ^ (1 : Int).toNat = 2 from rfl, show (-1 : Int32) = iI (-1) from rfl, iI_add]
    have := ih n (c * 2) (e + -1) (by omega) h0 h1 (by omega) (by omega) (by omega) (by omega)
    rw [this, show e + -1 - (j : Int) = e - ((j + 1 : Nat) : Int) by omega]
set_option maxRecDepth 10000 in
theorem wid_spec {z : Int} (z0 : 0 ≤ z) (z1 : z < (2 ^ szK 1 - 1) * 2 ^ (szD 1 - 1)) : ∃ S, f_Md_widened (iL z) (iI (szD 1)) (iI (szL 1)) = some (iL S) ∧ HLK S (mC 1 z) (mQ 1 z) := by
  have hz63 : z < 9223372036854775808 := by have := (inf_b (s := 1) (by omega)).2; omega
  unfold f_Md_widened
  have hz : (iL z = (0 : Int64)) = (z = 0) := by rw [show (0 : Int64) = iL 0 from rfl, iL_eqU z0 (by omega) (by omega) (by omega)]
  simp only [hz]
  by_cases q : z = 0
  · rw [if_pos q]
    refine ⟨0, rfl, by omega, by omega, Or.inl ⟨rfl, ?_⟩⟩
    rw [q]; unfold mC; rw [if_pos (p2_pos _)]
  · rw [if_neg q]
    obtain ⟨q1, q2, q3⟩ := mQ_b (s := 1) (by omega) z0 z1
    rw [mc_spec (s := 1) (by omega) z0 hz63, Option.bind_some, mq_spec (s := 1) (by omega) z0 hz63 q3, Option.bind_some]
    have hP : (2 : Int) ^ (szD 1 - 1) = 8388608 := by decide
    have hL : szL 1 = -149 := rfl
    have hcb : 0 < mC 1 z ∧ mC 1 z < 16777216 := by
      unfold mC
      rw [hP]
      split <;> omega
    have hqb : -149 ≤ mQ 1 z ∧ mQ 1 z ≤ 105 := by
      have hz255 : z / 8388608 < 255 := by
        rw [hP, show (2 : Int) ^ szK 1 - 1 = 255 from by decide] at z1
        omega
      unfold mQ
      rw [hP, hL]
      split <;> omega
    generalize mC 1 z = c at *
    generalize mQ 1 z = qq at *
    obtain ⟨b, _, hb, _⟩ := nlzL_spec (v := c) (by omega) (by omega)
    have hb24 : b ≤ 24 := bl_le hb (by rw [show (2 : Int) ^ 24 = 16777216 from by decide]; exact hcb.2)
    have hbp := bl_pos hb hcb.1
    obtain ⟨x1, x2⟩ := bl_shl (k := 24 - b) hb hbp
    rw [show b + (24 - b) = 24 by omega, show (2 : Int) ^ 24 = 16777216 from by decide] at x1
    rw [show b + (24 - b) - 1 = 23 by omega, show (2 : Int) ^ 23 = 8388608 from by decide] at x2
    rw [show (1046 : Int32) = iI 1046 from rfl, iI_add, wid29 (24 - b) gx_fu c (1046 + qq) hcb.1 x2 x1 (by have := fu_pos; omega) (by omega) (by omega) (by omega)]
    refine ⟨_, rfl, ?_⟩
    have hsh : (min (53 - (b : Int)) (qq + 1074)).toNat = (24 - b) + 29 := by omega
    have hC : c * 2 ^ ((24 - b) + 29) = c * 2 ^ (24 - b) * 536870912 := by
      rw [Int.pow_add, ← Int.mul_assoc, show (2 : Int) ^ 29 = 536870912 from by decide]
    generalize hX : c * 2 ^ (24 - b) = X at *
    have hS1 : ((1046 + qq - ((24 - b : Nat) : Int)) * 4503599627370496 + (X - 8388608) * 536870912) / 4503599627370496 = 1046 + qq - ((24 - b : Nat) : Int) := by omega
    have hS2 : ((1046 + qq - ((24 - b : Nat) : Int)) * 4503599627370496 + (X - 8388608) * 536870912) % 4503599627370496 = (X - 8388608) * 536870912 := by omega
    refine ⟨by omega, by omega, Or.inr ⟨by omega, hcb.1, b, hb, by omega, by omega, by omega, ?_, ?_⟩⟩
    · rw [hS1, hS2, if_pos (by omega), hsh, hC]; omega
    · rw [hS1, if_pos (by omega)]; omega
-- XX
set_option maxRecDepth 10000 in
def realA (s : Nat) (u pr : Int) (T : List Int32) : Prop := if biN s u = 1 then T = wN.map iI else if biI s u = 1 then T = wI.map iI else HXT (biC s u) (biQ s u) pr T
set_option maxRecDepth 10000 in
def oxE (s : Nat) (u : Int) : List Int32 := if biN s u = 1 ∨ biI s u = 1 then [] else [iI 48, iI 120]
set_option maxRecDepth 10000 in
theorem realA_uniq {s : Nat} {u pr : Int} {T T' : List Int32} (h : realA s u pr T) (h' : realA s u pr T') : T = T' := by
  unfold realA at h h'
  split at h
  · rename_i q; rw [if_pos q] at h'; rw [h, h']
  · rename_i q; rw [if_neg q] at h'
    split at h
    · rename_i q2; rw [if_pos q2] at h'; rw [h, h']
    · rename_i q2; rw [if_neg q2] at h'; exact HXT_uniq h h'
set_option maxRecDepth 10000 in
theorem mrealA_spec {s : Nat} (hs : s < 2) {u : Int} (h0 : 0 ≤ u) (h1 : u < 18446744073709551616) {pr : Int} (p0 : -1 ≤ pr) (p1 : pr ≤ 9999) (g sh : Int32) (un us en ep crn crp bl ng no : Int32) (ed crd sp bc : Nat → Int32) (lc : Nat → Int64) :
    ∃ us' en' ed' lc' ep' crn' crp' crd' bl' sp' bc' T, f_Md_real (iI 97) (iI pr) g sh (iL u) (iI (szD s)) un (iI (szL s)) us en ed lc ep crn crp crd bl sp ng no bc = some (iI (if biN s u = 1 ∨ biI s u = 1 then 1 else 0), us', en', ed', lc', ep', crn', crp', crd', bl', sp', iI (biS s u), iI (biN s u), bc') ∧ realA s u pr T ∧ TP bl' bc' (oxE s u ++ T) := by
  obtain ⟨b1, b2, b3, b4, b5, b6⟩ := bi_z hs h0
  obtain ⟨z0, z1⟩ := szS_le (s := s) u
  have hN01 := biN_01 s u
  have hI01 := biI_01 s u
  rw [mreal53 hs h0 h1]
  unfold f_Md_real_83
  have hbo : gx_bo (iI (biS s u)) = true := by rcases biS_01 s u with r | r <;> rw [r] <;> decide
  rw [if_pos hbo]
  unfold realA oxE
  by_cases qN : biN s u = 1
  · have hz := b1.mpr qN
    rw [if_pos (Or.inl qN), if_neg (show ¬ iI 1 = 0 from by decide), none_spec hs z0 z1, Option.bind_some, if_pos hz, if_neg (show ¬ iI 1 = 0 from by decide)]
    unfold f_Md_real_109
    obtain ⟨b, c, e, t⟩ := mreal114 hs z0 z1 LW45 (by decide) (iI 1) us en ep crn crp (iI (biS s u)) no ed crd sp lc wN 0 gx_fu 0 bc [] rfl (by omega) (by decide) (TP_nil0 bc) (by decide) (by decide) (by decide)
    rw [if_pos hz] at e
    rw [qN, if_pos (Or.inl rfl)]
    exact ⟨_, _, _, _, _, _, _, _, b, _, c, _, e, by rw [if_pos rfl], t⟩
  · have hz : ¬ (2 ^ szK s - 1) * 2 ^ (szD s - 1) < u % 2 ^ szS s := fun x => qN (b1.mp x)
    have hN0 : biN s u = 0 := by omega
    by_cases qI : biI s u = 1
    · rw [if_pos (Or.inr qI), if_neg (show ¬ iI 1 = 0 from by decide), none_spec hs z0 z1, Option.bind_some, if_neg hz, if_pos (show iI 0 = 0 from rfl)]
      unfold f_Md_real_109
      obtain ⟨b, c, e, t⟩ := mreal114 hs z0 z1 LW46 (by decide) (iI 1) us en ep crn crp (iI (biS s u)) no ed crd sp lc wI 0 gx_fu 0 bc [] rfl (by omega) (by decide) (TP_nil0 bc) (by decide) (by decide) (by decide)
      rw [if_neg hz] at e
      rw [hN0, qI, if_pos (Or.inr rfl)]
      exact ⟨_, _, _, _, _, _, _, _, b, _, c, _, e, by rw [if_neg (by decide), if_pos rfl], t⟩
    · have hnn : ¬ (biN s u = 1 ∨ biI s u = 1) := fun x => by rcases x with x | x; exact qN x; exact qI x
      have hI0 : biI s u = 0 := by omega
      rw [if_neg hnn, if_pos (show iI 0 = 0 from rfl), if_neg hnn]
      have hlt : u % 2 ^ szS s < (2 ^ szK s - 1) * 2 ^ (szD s - 1) := by
        rcases Int.lt_trichotomy (u % 2 ^ szS s) ((2 ^ szK s - 1) * 2 ^ (szD s - 1)) with w | w | w
        · exact w
        · exact absurd (b2.mp w) qI
        · exact absurd w hz
      rw [if_pos (show iI 97 = 97 from rfl)]
      -- the double's bits
      have main : ∀ S, HLK S (mC s (u % 2 ^ szS s)) (mQ s (u % 2 ^ szS s)) → ∃ us' en' ed' lc' ep' crn' crp' crd' bl' sp' bc' T, f_Md_real_184 (iI pr) (iL S) (iI (szD s)) (iI 0) (iI (szL s)) us en ed lc ep crn crp crd 0 sp (iI (biS s u)) 0 bc = some (iI 0, us', en', ed', lc', ep', crn', crp', crd', bl', sp', iI (biS s u), iI (biN s u), bc') ∧ (if biN s u = 1 then T = wN.map iI else if biI s u = 1 then T = wI.map iI else HXT (biC s u) (biQ s u) pr T) ∧ TP bl' bc' ([iI 48, iI 120] ++ T) := by
        intro S hS
        rw [b3, b4] at hS
        unfold f_Md_real_184
        obtain ⟨bl', sp', bc', T, e, hT, t⟩ := mhexa2_spec hS p0 p1 sp (TP_nil0 bc) (by decide)
        rw [e, Option.bind_some, hN0]
        exact ⟨_, _, _, _, _, _, _, _, bl', sp', bc', T, rfl, by rw [if_neg (by decide), if_neg qI]; exact hT, t⟩
      have : s = 0 ∨ s = 1 := by omega
      rcases this with rfl | rfl
      · rw [if_pos (show iI (szD 0) = 53 from by decide)]
        refine main _ (HLK_0 z0 ?_)
        have : ((2 : Int) ^ szK 0 - 1) * 2 ^ (szD 0 - 1) = 9218868437227405312 := by decide
        rw [this] at hlt
        exact hlt
      · rw [if_neg (show ¬ iI (szD 1) = 53 from by decide)]
        obtain ⟨S, e, hS⟩ := wid_spec z0 hlt
        rw [e, Option.bind_some]
        exact main S hS
set_option maxRecDepth 10000 in
theorem ffloatA_spec {nh nb : Nat} (hnh : nh < 1000000) (hnb : nb < 1000000) {s : Nat} (hs : s < 2) {ki : Int32} (hki : (ki = 5) = (s = 1)) {u : Int} (h0 : 0 ≤ u) (h1 : u < 18446744073709551616) {pr : Int} (hpr : -1 ≤ pr) (hpr1 : pr ≤ 9999) (fl : Int32) {hl ho bl bo : Int32} {hc bc : Nat → Int32} {H : List Int32} (hH : BY nh hl ho hc H) (hB : BY nb bl bo bc []) (na ng inf q0 : Int32) (c0 : Int64) (ns sz pt zr : Int32) (nl ch dc : Nat → Int32) (si : Nat) :
    ∃ hl' ho' bl' bo' hc' bc' x1 x2 x3 x4 x5 x6 T, f_Pr_fillFloating ki (iL u) nh nb na ng fl hl 0 inf (iI 97) (iI pr) c0 q0 ns nl ch sz pt dc bl bo si ho hc bc zr = some (iI (biN s u), iI (biS s u), hl', (if biN s u = 1 then 0 else closE (biS s u ≠ 0) fl), iI (biI s u), iL (biC s u), iI (biQ s u), x1, x2, x3, x4, x5, x6, bl', bo', s, ho', hc', bc', (if biN s u = 1 ∨ biI s u = 1 then 0 else zr)) ∧ BY nh hl' ho' hc' (H ++ ((if biN s u = 1 then [] else signE (biS s u ≠ 0) fl) ++ oxE s u)) ∧ realA s u pr T ∧ BY nb bl' bo' bc' T := by
  have e0 : f_Pr_fillFloating ki (iL u) nh nb na ng fl hl 0 inf (iI 97) (iI pr) c0 q0 ns nl ch sz pt dc bl bo si ho hc bc zr = f_Pr_fillFloating_18 (iL u) s nh nb na ng fl hl 0 inf (iI 97) (iI pr) c0 q0 ns nl ch sz pt dc bl bo si ho hc bc zr := by
    unfold f_Pr_fillFloating
    simp only [hki]
    have : s = 0 ∨ s = 1 := by omega
    rcases this with rfl | rfl
    · rw [if_neg (by decide)]
    · rw [if_pos rfl]
  rw [e0]
  unfold f_Pr_fillFloating_18 realA oxE
  rw [take_spec hs h0 h1, Option.bind_some]
  dsimp only
  by_cases qN : biN s u = 1
  · rw [qN, if_neg (show ¬ iI 1 = 0 from by decide), if_pos rfl, if_pos (Or.inl rfl), if_pos rfl, if_pos (Or.inl rfl), List.nil_append, List.append_nil]
    obtain ⟨l1, o1, c1, e1, b1⟩ := astr_spec (o := 14) (by omega) (by decide) hB
    rw [e1, Option.bind_some]
    exact ⟨_, _, _, _, _, _, _, _, _, _, _, _, _, rfl, hH, by rw [if_pos rfl]; decide, b1⟩
  · have hN0 : biN s u = 0 := by rcases biN_01 s u with r | r; exact r; exact absurd r qN
    rw [hN0, if_pos (show iI 0 = 0 from rfl), if_neg (show ¬ (0 : Int) = 1 from by decide), if_neg (show ¬ (0 : Int) = 1 from by decide)]
    obtain ⟨l1, o1, c1, e1, b1⟩ := addSign_spec hnh hH (iI (biS s u)) fl
    rw [e1, Option.bind_some]
    dsimp only
    have hsp : (iI (biS s u) ≠ 0) = (biS s u ≠ 0) := by
      rcases biS_01 s u with r | r
      · rw [r]; exact propext ⟨fun x => absurd rfl x, fun x => absurd rfl x⟩
      · rw [r]; exact propext ⟨fun _ => by decide, fun _ => by decide⟩
    simp only [hsp] at b1 e1 ⊢
    by_cases qI : biI s u = 1
    · rw [qI, if_neg (show ¬ iI 1 = 0 from by decide), if_pos (Or.inr rfl), if_pos (Or.inr rfl), List.append_nil]
      obtain ⟨l2, o2, c2, e2, b2⟩ := astr_spec (o := 15) (by omega) (by decide) hB
      rw [e2, Option.bind_some]
      exact ⟨_, _, _, _, _, _, _, _, _, _, _, _, _, rfl, b1, by rw [if_neg (by decide), if_pos rfl]; decide, b2⟩
    · have hI0 : biI s u = 0 := by rcases biI_01 s u with r | r; exact r; exact absurd r qI
      rw [hI0, if_pos (show iI 0 = 0 from rfl), if_neg (show ¬ ((0 : Int) = 1 ∨ (0 : Int) = 1) from by decide), if_neg (show ¬ ((0 : Int) = 1 ∨ (0 : Int) = 1) from by decide)]
      obtain ⟨g1, g2, g3, g4⟩ := biCQ hs h0 qN qI
      rw [if_pos (show iI 97 = 97 from rfl)]
      obtain ⟨y1, y2, y3, y4, y5, y6, T, e2, b2, hT, b3⟩ := fhex_spec hnh hnb g1 g2 g3 g4 hpr hpr1 b1 hB
      rw [e2, Option.bind_some]
      refine ⟨_, _, _, _, _, _, _, _, _, _, _, _, T, rfl, ?_, by rw [if_neg (by decide), if_neg (by decide)]; exact hT, b3⟩
      rw [← List.append_assoc]
      exact b2
