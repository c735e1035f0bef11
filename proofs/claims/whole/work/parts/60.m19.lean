-- YT
set_option maxRecDepth 10000 in
theorem HX_cross {s H g : Nat} {e t r : Int} (he : e = t - 4 * (g : Int)) (h : NE s ((H : Int) * 2 ^ (t - szL s).toNat) (((16 ^ g : Nat) : Int) * 2 ^ (szL s - t).toNat) r) : HX s H e r := by
  have h16 : ((16 ^ g : Nat) : Int) = 2 ^ (4 * g) := by rw [Int.natCast_pow, Int.pow_mul]; rfl
  unfold HX
  refine NE_cross (Int.mul_pos (by rw [h16]; exact p2_pos _) (p2_pos _)) (p2_pos _) ?_ h
  rw [h16, Int.mul_assoc, Int.mul_assoc, p2_add, p2_add, ]
  rw [p2_add]
  congr 2; omega
set_option maxRecDepth 10000 in
theorem HS_cases {T k H f : Nat} {m lo po : Int} (h : HS T k H f m lo po) : ∃ g : Nat, po = 4 * ((g : Int) - f) ∧ g ≤ k ∧ f ≤ k ∧ H < 16 ^ k ∧ (m = 0 ↔ H = 0) ∧ ((lo = 0 ∧ (H : Int) = m * ((16 ^ g : Nat) : Int)) ∨ (lo = 1 ∧ m * ((16 ^ g : Nat) : Int) < H ∧ (H : Int) < (m + 1) * ((16 ^ g : Nat) : Int) ∧ 2 ^ T ≤ m)) := by
  obtain ⟨g, h1, h2, h3, h4, h5, h6, h7, h8⟩ := h
  have hp : 0 < 16 ^ g := Nat.pow_pos (by decide)
  have d1 := Nat.div_add_mod H (16 ^ g)
  have d2 := Nat.mod_lt H hp
  have e1 : m * ((16 ^ g : Nat) : Int) = ((16 ^ g * (H / 16 ^ g) : Nat) : Int) := by rw [h1, Int.natCast_mul, Int.mul_comm]
  have e2 : (m + 1) * ((16 ^ g : Nat) : Int) = ((16 ^ g * (H / 16 ^ g) + 16 ^ g : Nat) : Int) := by rw [Int.add_mul, e1, Int.one_mul, Int.natCast_add]
  refine ⟨g, h5, h6, h7, h8, ?_, ?_⟩
  · constructor
    · intro hm
      rcases Nat.eq_zero_or_pos g with q | q
      · subst q; rw [Nat.pow_zero, Nat.div_one] at h1; omega
      · have := h3 q
        have := p2_pos T
        omega
    · intro hH; rw [h1, hH, Nat.zero_div]; rfl
  · rw [e1, e2, h4]
    generalize 16 ^ g * (H / 16 ^ g) = Z at *
    by_cases q : H % 16 ^ g = 0
    · rw [if_pos q]
      exact Or.inl ⟨rfl, by omega⟩
    · rw [if_neg q]
      refine Or.inr ⟨rfl, by omega, by omega, ?_⟩
      rcases Nat.eq_zero_or_pos g with w | w
      · subst w; rw [Nat.pow_zero, Nat.mod_one] at q; exact absurd rfl q
      · exact h3 w
set_option maxRecDepth 10000 in
theorem fh_spec {k H f : Nat} {ma lo po ex : Int} (hS : HS 56 k H f ma lo po) (hk : k ≤ 65536) (hex0 : -1000000000 < ex) (hex1 : ex < 1000000000) :
    ∃ m po', f_Rd_finishHexadecimal (iI po) (iI ex) (iI lo) (iL ma) = some (iI po', iL m) ∧ 0 ≤ m ∧ m < 4611686018427387904 ∧ -1100000000 ≤ po' ∧ po' ≤ 1100000000 ∧ (H = 0 → m = 0) ∧ (0 < H → ∀ s, s < 2 → ∀ b, isBL m b → HX s H (ex - 4 * (f : Int)) (roV s m po' b)) := by
  obtain ⟨m0, m1, l01⟩ := HS_m hS
  rw [show (2 : Int) ^ (56 + 4) = 1152921504606846976 from by decide] at m1
  obtain ⟨g, h5, h6, h7, h8, h9, h10⟩ := HS_cases hS
  have hY : 0 < ((16 ^ g : Nat) : Int) := Int.ofNat_lt.mpr (Nat.pow_pos (by decide))
  unfold f_Rd_finishHexadecimal
  rw [iI_add]
  have main : ∀ m, 0 < m → m < 1152921504606846977 → STK m (H : Int) ((16 ^ g : Nat) : Int) → ((H : Int) = m * ((16 ^ g : Nat) : Int) ∨ 72057594037927936 ≤ m) → ∀ s, s < 2 → ∀ b, isBL m b → HX s H (ex - 4 * (f : Int)) (roV s m (po + ex) b) := by
    intro m hm0 hm1 stk hx s hs b hb
    have g53 : szD s ≤ 53 := by rcases sz_cases hs with h | h <;> omega
    have hb62 : b ≤ 62 := bl_le hb (by rw [show (2 : Int) ^ 62 = 4611686018427387904 from by decide]; omega)
    refine HX_cross (g := g) (t := po + ex) (by omega) ?_
    refine roV_all hs hm0 hY stk hb hb62 ?_ (by omega)
    rcases hx with hx | hx
    · exact Or.inl hx
    · refine Or.inr ?_
      rcases Nat.lt_or_ge b 57 with q | q
      · have a1 := hb.1
        have a2 : (2 : Int) ^ b ≤ 2 ^ 56 := p2_mono (by omega)
        rw [show (2 : Int) ^ 56 = 72057594037927936 from by decide] at a2
        omega
      · omega
  rcases h10 with ⟨rfl, hx⟩ | ⟨rfl, hx0, hx1, hx2⟩
  · rw [if_pos (show iI 0 = 0 from rfl)]
    refine ⟨ma, po + ex, rfl, m0, by omega, by omega, by omega, fun h => h9.mpr h, fun hH => ?_⟩
    exact main ma (by have := h9; omega) (by omega) (Or.inl hx) (Or.inl hx)
  · rw [show (2 : Int) ^ 56 = 72057594037927936 from by decide] at hx2
    rw [if_neg (show ¬ iI 1 = 0 from by decide), or1 m0 (by omega)]
    refine ⟨ma / 2 * 2 + 1, po + ex, rfl, by omega, by omega, by omega, by omega, fun h => by have := h9.mpr h; omega, fun hH => ?_⟩
    refine main _ (by omega) (by omega) (Or.inr ⟨by omega, ?_⟩) (Or.inr (by omega))
    have a3 : (ma + 1) * ((16 ^ g : Nat) : Int) = ma * ((16 ^ g : Nat) : Int) + ((16 ^ g : Nat) : Int) := by grind
    have a4 : (ma - 1) * ((16 ^ g : Nat) : Int) = ma * ((16 ^ g : Nat) : Int) - ((16 ^ g : Nat) : Int) := by grind
    have a5 : (ma + 2) * ((16 ^ g : Nat) : Int) = ma * ((16 ^ g : Nat) : Int) + 2 * ((16 ^ g : Nat) : Int) := by grind
    rcases Int.emod_two_eq ma with w | w
    · rw [show ma / 2 * 2 + 1 = ma + 1 by omega, show ma + 1 - 1 = ma by omega, show ma + 1 + 1 = ma + 2 by omega]
      omega
    · rw [show ma / 2 * 2 + 1 = ma by omega]
      omega
set_option maxRecDepth 10000 in
theorem mh_step {t : Int32} {tc : Nat → Int32} {E : List Int32} (h : TP t tc E) (hE : E.length ≤ 65536) {z i : Nat} (hz : z ≤ E.length) (hd : 0 ≤ hv (hr E z i)) {k H f bh : Nat} (hbh : bh ≤ 1) {ma lo po : Int} (hS : HS 58 k H f ma lo po) (m : Nat) (an : Int) (bi le : Int32) :
    ∃ ma' lo' po', HS 58 (k + 1) (16 * H + (hv (hr E z i)).toNat) (f + bh) ma' lo' po' ∧ f_Md_hexadecimal_23 (m + 1) (iL ma) (iL po) (iI lo) (iI bh) (iI an) (iI i) (iI z) tc bi le = f_Md_hexadecimal_23 m (iL ma') (iL po') (iI lo') (iI bh) (iI (an + 1)) (iI ((i + 1 : Nat) : Int)) (iI z) tc bi le := by
  have hi := hv_in hd
  have hb := hr_b E z i
  have vb := hv_b (hr E z i)
  obtain ⟨m0, m1, l01⟩ := HS_m hS
  rw [show (2 : Int) ^ (58 + 4) = 4611686018427387904 from by decide] at m1
  have e1 : iI (i : Int) + 1 = iI ((i + 1 : Nat) : Int) := by rw [show (1 : Int32) = iI 1 from rfl, iI_add]; rfl
  have e2 : iI an + 1 = iI (an + 1) := by rw [show (1 : Int32) = iI 1 from rfl, iI_add]
  have hb01 : bh = 0 ∨ bh = 1 := by omega
  have n46 : ¬ hr E z i = 46 := fun w => by rw [w] at hd; exact absurd hd (by decide)
  rw [f_Md_hexadecimal_23, mhexD_spec h hE hz (by omega), Option.bind_some, if_pos (show (0 : Int32) ≤ iI (hv (hr E z i)) from by simp (disch := omega) only [iI_lit, iL_lit, iI_add, iI_sub, iI_mul, iI_neg, iL_add, iL_sub, iL_mul, iL_neg, iI_lt, iI_le, iI_eq, iL_lt, iL_le, iL_eqS, iI_c, iI_ok, iI_l, iL_i, iI_low, l_ushrI, l_shlI, l_shrI, i_shlI, i_shrI, i_ushrI, iI_div, iL_div, Int.toNat_natCast, Int.reduceToNat, iI_ofNat]; omega)]
  unfold f_Md_hexadecimal_44 f_Md_hexadecimal_127 f_Md_hexadecimal_138
  rw [show (46 : Int32) = iI 46 from rfl, mdis_spec h hE hz (by omega) (by omega) (by omega), Option.bind_some, if_neg n46, if_pos (show iI 0 = 0 from rfl), mhexD_spec h hE hz (by omega), Option.bind_some, e1, e2]
  rw [show (58 : Int32).toInt64 = iL 58 from rfl]
  simp only [shr0 m0 (by omega) (show (0 : Int) ≤ 58 by omega) (show (58 : Int) < 64 by omega)]
  rw [iI_l (by omega) (by omega)]
  obtain ⟨x, hx⟩ : ∃ x : Nat, hv (hr E z i) = (x : Int) := ⟨(hv (hr E z i)).toNat, by omega⟩
  rw [hx, Int.toNat_natCast]
  have hx16 : x < 16 := by omega
  rw [show (2 : Int) ^ (58 : Int).toNat = 2 ^ 58 from rfl]
  by_cases w : ma < 2 ^ 58
  · rw [if_pos w]
    rw [or4 m0 (by rw [show (2 : Int) ^ 58 = 288230376151711744 from by decide] at w; omega) (by omega) (by omega)]
    have hL := HS_low hS hx16 hbh w
    refine ⟨_, _, _, hL, ?_⟩
    rcases hb01 with rfl | rfl
    · rw [if_pos (show iI ((0 : Nat) : Int) = 0 from rfl)]
      rw [show po - 4 * ((0 : Nat) : Int) = po by omega]
    · rw [if_neg (show ¬ iI ((1 : Nat) : Int) = 0 from by decide), show (4 : Int64) = iL 4 from rfl, iL_sub]; rfl
  · rw [if_neg w]
    have hH := HS_high hS hx16 hbh (by omega)
    refine ⟨_, _, _, hH, ?_⟩
    have body : ∀ lo' : Int32, (if iI (bh : Int) = 0 then f_Md_hexadecimal_23 m (iL ma) (iL po + (4 : Int64)) lo' (iI bh) (iI (an + 1)) (iI ((i + 1 : Nat) : Int)) (iI z) tc bi le else f_Md_hexadecimal_23 m (iL ma) (iL po) lo' (iI bh) (iI (an + 1)) (iI ((i + 1 : Nat) : Int)) (iI z) tc bi le) = f_Md_hexadecimal_23 m (iL ma) (iL (po + 4 * (1 - (bh : Int)))) lo' (iI bh) (iI (an + 1)) (iI ((i + 1 : Nat) : Int)) (iI z) tc bi le := by
      intro lo'
      rcases hb01 with rfl | rfl
      · rw [if_pos (show iI ((0 : Nat) : Int) = 0 from rfl), show (4 : Int64) = iL 4 from rfl, iL_add]; rfl
      · rw [if_neg (show ¬ iI ((1 : Nat) : Int) = 0 from by decide)]
        rw [show po + 4 * (1 - ((1 : Nat) : Int)) = po by omega]
    rw [body, body]
    rcases l01 with rfl | rfl
    · by_cases v : x = 0
      · subst v
        rw [if_pos (show iI ((0 : Nat) : Int) = 0 from rfl), if_pos ⟨rfl, rfl⟩]
      · rw [if_neg (show ¬ iI (x : Int) = 0 from by simp (disch := omega) only [iI_lit, iL_lit, iI_add, iI_sub, iI_mul, iI_neg, iL_add, iL_sub, iL_mul, iL_neg, iI_lt, iI_le, iI_eq, iL_lt, iL_le, iL_eqS, iI_c, iI_ok, iI_l, iL_i, iI_low, l_ushrI, l_shlI, l_shrI, i_shlI, i_shrI, i_ushrI, iI_div, iL_div, Int.toNat_natCast, Int.reduceToNat, iI_ofNat]; omega), if_neg (fun u => v u.2)]; rfl
    · rw [if_neg (show ¬ ((1 : Int) = 0 ∧ x = 0) from fun u => absurd u.1 (by decide))]
      split <;> rfl
set_option maxRecDepth 10000 in
theorem mh_loop {t : Int32} {tc : Nat → Int32} {E : List Int32} (h : TP t tc E) (hE : E.length ≤ 65536) {z : Nat} (hz : z ≤ E.length) {bh : Nat} (hbh : bh ≤ 1) (bi le : Int32) :
    ∀ (d i m H f k : Nat) (an ma lo po : Int), i + d = z → d < m → k ≤ i → HS 58 k H f ma lo po →
    ∃ m' ma' lo' po', m' + ((hRun E z d H i).2 - i) = m ∧ HS 58 (hRun E z d H i).2 (hRun E z d H i).1 (f + bh * ((hRun E z d H i).2 - i)) ma' lo' po' ∧ f_Md_hexadecimal_23 m (iL ma) (iL po) (iI lo) (iI bh) (iI an) (iI i) (iI z) tc bi le = f_Md_hexadecimal_23 m' (iL ma') (iL po') (iI lo') (iI bh) (iI (an + ((hRun E z d H i).2 - i : Nat))) (iI (hRun E z d H i).2) (iI z) tc bi le
  | 0, i, m, H, f, k, an, ma, lo, po, hi, hm, hk, hS => by
    refine ⟨m, ma, lo, po, ?_, ?_, ?_⟩
    · show m + (i - i) = m; omega
    · show HS 58 i H (f + bh * (i - i)) ma lo po
      rw [Nat.sub_self, Nat.mul_zero, Nat.add_zero]
      obtain ⟨g, h1, h2, h3, h4, h5, h6, h7, h8⟩ := hS
      exact ⟨g, h1, h2, h3, h4, h5, by omega, by omega, Nat.lt_of_lt_of_le h8 (Nat.pow_le_pow_right (by decide) hk)⟩
    · show _ = f_Md_hexadecimal_23 m (iL ma) (iL po) (iI lo) (iI bh) (iI (an + (i - i : Nat))) (iI i) (iI z) tc bi le
      rw [Nat.sub_self, show an + ((0 : Nat) : Int) = an by omega]
  | d + 1, i, m + 1, H, f, k, an, ma, lo, po, hi, hm, hk, hS => by
    by_cases q : 0 ≤ hv (hr E z i)
    · obtain ⟨ma1, lo1, po1, hS1, e1⟩ := mh_step h hE hz q hbh hS m an bi le
      obtain ⟨m2, ma2, lo2, po2, hm2, hS2, e2⟩ := mh_loop h hE hz hbh bi le d (i + 1) m _ _ (k + 1) (an + 1) ma1 lo1 po1 (by omega) (by omega) (by omega) hS1
      have eD : hRun E z (d + 1) H i = hRun E z d (16 * H + (hv (hr E z i)).toNat) (i + 1) := by
        show (if 0 ≤ hv (hr E z i) then _ else _) = _
        rw [if_pos q]
      rw [eD]
      have hb := hRun_b E z d (16 * H + (hv (hr E z i)).toNat) (i + 1)
      generalize hRun E z d (16 * H + (hv (hr E z i)).toNat) (i + 1) = R at *
      refine ⟨m2, ma2, lo2, po2, by omega, ?_, ?_⟩
      · rw [show f + bh * (R.2 - i) = f + bh + bh * (R.2 - (i + 1)) by
          rw [show R.2 - i = (R.2 - (i + 1)) + 1 by omega, Nat.mul_add]; omega]
        exact hS2
      · rw [e1, e2, show an + 1 + ((R.2 - (i + 1) : Nat) : Int) = an + ((R.2 - i : Nat) : Int) by omega]
    · have eD : hRun E z (d + 1) H i = (H, i) := by
        show (if 0 ≤ hv (hr E z i) then _ else _) = _
        rw [if_neg q]
      rw [eD]
      refine ⟨m + 1, ma, lo, po, ?_, ?_, ?_⟩
      · show m + 1 + (i - i) = m + 1; omega
      · show HS 58 i H (f + bh * (i - i)) ma lo po
        rw [Nat.sub_self, Nat.mul_zero, Nat.add_zero]
        obtain ⟨g, h1, h2, h3, h4, h5, h6, h7, h8⟩ := hS
        exact ⟨g, h1, h2, h3, h4, h5, by omega, by omega, Nat.lt_of_lt_of_le h8 (Nat.pow_le_pow_right (by decide) hk)⟩
      · show _ = f_Md_hexadecimal_23 (m + 1) (iL ma) (iL po) (iI lo) (iI bh) (iI (an + (i - i : Nat))) (iI i) (iI z) tc bi le
        rw [Nat.sub_self, show an + ((0 : Nat) : Int) = an by omega]
set_option maxRecDepth 10000 in
def hexR (s H : Nat) (e r : Int) : Prop := 0 ≤ r ∧ r ≤ (2 ^ szK s - 1) * 2 ^ (szD s - 1) ∧ (H = 0 → r = 0) ∧ (0 < H → HX s H e r)
set_option maxRecDepth 10000 in
theorem mh141 {s : Nat} (hs : s < 2) {t : Int32} {tc : Nat → Int32} {E : List Int32} (h : TP t tc E) (hE : E.length ≤ 65536) {z i : Nat} (hz : z ≤ E.length) (hi : i ≤ z) {ma lo po : Int} (hS : HS 58 (qE E z i) (qN E z i) (qf E z i) ma lo po) :
    ∃ r : Int, ∃ at' : Nat, f_Md_hexadecimal_141 (iL ma) (iL po) (iI lo) (iI (qA E z i)) (iI (qE E z i)) (iI z) tc (iI (szD s)) (iI (szL s)) = some (iL r, iI at') ∧ at' ≤ z ∧ (¬ qOK E z i → r = -1) ∧ (qOK E z i → at' = qZ E z i ∧ hexR s (qN E z i) (xM E z (qE E z i + 1) - 4 * (qf E z i : Int)) r) := by
  obtain ⟨b1, b2, b3, b4, b5⟩ := q_b (E := E) hi
  unfold f_Md_hexadecimal_141
  have hA : qA E z i ≤ 200000 := by unfold qA; omega
  by_cases q : qA E z i = 0
  · rw [if_pos (show iI (qA E z i : Int) = 0 from by rw [q]; rfl)]
    exact ⟨-1, qE E z i, rfl, b3, fun _ => rfl, fun w => absurd q w.1⟩
  · rw [if_neg (show ¬ iI (qA E z i : Int) = 0 from by simp (disch := omega) only [iI_lit, iL_lit, iI_add, iI_sub, iI_mul, iI_neg, iL_add, iL_sub, iL_mul, iL_neg, iI_lt, iI_le, iI_eq, iL_lt, iL_le, iL_eqS, iI_c, iI_ok, iI_l, iL_i, iI_low, l_ushrI, l_shlI, l_shrI, i_shlI, i_shrI, i_ushrI, iI_div, iL_div, Int.toNat_natCast, Int.reduceToNat, iI_ofNat]; omega)]
    rw [show (112 : Int32) = iI 112 from rfl, show (80 : Int32) = iI 80 from rfl, mdis_spec h hE hz (by omega) (by omega) (by omega), Option.bind_some, mdis_spec h hE hz (by omega) (by omega) (by omega), Option.bind_some]
    have h168 : qX E z i → ∃ r : Int, ∃ at' : Nat, f_Md_hexadecimal_168 (iL ma) (iL po) (iI lo) (iI (qE E z i)) (iI z) tc (iI (szD s)) (iI (szL s)) = some (iL r, iI at') ∧ at' ≤ z ∧ (¬ qOK E z i → r = -1) ∧ (qOK E z i → at' = qZ E z i ∧ hexR s (qN E z i) (xM E z (qE E z i + 1) - 4 * (qf E z i : Int)) r) := by
      intro w
      have hl := qX_in w
      have hy := xEnd_b (E := E) (show qE E z i + 1 ≤ z by omega)
      obtain ⟨_, _, _, x0, x1, _⟩ := x_rel E z (qE E z i + 1)
      unfold f_Md_hexadecimal_168
      rw [show iI (qE E z i : Int) + 1 = iI ((qE E z i + 1 : Nat) : Int) from by rw [show (1 : Int32) = iI 1 from rfl, iI_add]; rfl, mexp_spec h hE hz (by omega), Option.bind_some]
      by_cases v : xBeg E z (qE E z i + 1) < xEnd E z (qE E z i + 1)
      · rw [if_pos v, if_neg (show ¬ iL (xM E z (qE E z i + 1)) = (-9223372036854775808 : Int64) from by rw [show (-9223372036854775808 : Int64) = iL (-9223372036854775808) from rfl, iL_eqS (by omega) (by omega) (by omega) (by omega)]; omega)]
        dsimp only
        rw [iL_add]
        obtain ⟨m0, m1, l01⟩ := HS_m hS
        rw [show (2 : Int) ^ (58 + 4) = 4611686018427387904 from by decide] at m1
        obtain ⟨g, h5, h6, h7, h8, h9, h10⟩ := HS_cases hS
        have hY : 0 < ((16 ^ g : Nat) : Int) := Int.ofNat_lt.mpr (Nat.pow_pos (by decide))
        have hM : MOR ma lo (qN E z i : Int) ((16 ^ g : Nat) : Int) := by
          rcases h10 with k | ⟨k1, k2, k3, k4⟩
          · exact Or.inl k
          · rw [show (2 : Int) ^ 58 = 288230376151711744 from by decide] at k4
            exact Or.inr ⟨k1, k2, k3, k4⟩
        obtain ⟨r, e, r0, r1, r2, r3⟩ := mround_spec hs m0 m1 hY hM (t := po + xM E z (qE E z i + 1)) (by omega) (by omega)
        rw [e, Option.bind_some]
        refine ⟨r, _, rfl, by omega, fun ww => absurd ⟨q, w, v⟩ ww, fun _ => ⟨rfl, r0, r1, fun hH => r2 (h9.mpr hH), fun hH => ?_⟩⟩
        exact HX_cross (g := g) (t := po + xM E z (qE E z i + 1)) (by omega) (r3 (by have := h9; omega))
      · rw [if_neg v, if_pos rfl]
        exact ⟨-1, _, rfl, by omega, fun _ => rfl, fun ww => absurd ww.2.2 v⟩
    by_cases w1 : hr E z (qE E z i) = 112
    · rw [if_pos w1, if_neg (show ¬ iI 1 = 0 from by decide)]
      exact h168 (Or.inl w1)
    · rw [if_neg w1, if_pos (show iI 0 = 0 from rfl)]
      by_cases w2 : hr E z (qE E z i) = 80
      · rw [if_pos w2, if_neg (show ¬ iI 1 = 0 from by decide)]
        exact h168 (Or.inr w2)
      · rw [if_neg w2, if_pos (show iI 0 = 0 from rfl)]
        have nx : ¬ qX E z i := fun w => by rcases w with w | w; exact w1 w; exact w2 w
        exact ⟨-1, _, rfl, b3, fun _ => rfl, fun w => absurd w.2.1 nx⟩
set_option maxRecDepth 10000 in
theorem mhex_spec {s : Nat} (hs : s < 2) {t : Int32} {tc : Nat → Int32} {E : List Int32} (h : TP t tc E) (hE : E.length ≤ 65536) {z i0 i : Nat} (hz : z ≤ E.length) (hi0 : i = i0 + 2) (hi : i ≤ z) :
    ∃ r : Int, ∃ at' : Nat, f_Md_hexadecimal (iI i0) (iI z) tc (iI (szD s)) (iI (szL s)) = some (iL r, iI at') ∧ at' ≤ z ∧ (¬ qOK E z i → r = -1) ∧ (qOK E z i → at' = qZ E z i ∧ hexR s (qN E z i) (xM E z (qE E z i + 1) - 4 * (qf E z i : Int)) r) := by
  obtain ⟨b1, b2, b3, b4, b5⟩ := q_b (E := E) hi
  have hfu := fu_pos
  unfold f_Md_hexadecimal
  rw [show iI (i0 : Int) + 2 = iI (i : Int) from by rw [show (2 : Int32) = iI 2 from rfl, iI_add, hi0]; rfl]
  have hS0 : HS 58 0 0 0 0 0 0 := ⟨0, rfl, by decide, fun q => absurd q (by omega), by decide, by decide, by omega, by omega, by decide⟩
  obtain ⟨m1, ma1, lo1, po1, hm1, hS1, e1⟩ := mh_loop h hE hz (bh := 0) (by omega) (iI (szD s)) (iI (szL s)) (z - i) i gx_fu 0 0 0 0 0 0 0 (by omega) (by omega) (by omega) hS0
  have nd1 := hRun_dig E z (z - i) 0 i (by omega)
  have eI : hRun E z (z - i) 0 i = qI E z i := rfl
  rw [eI] at hm1 hS1 e1 nd1
  have e1' : f_Md_hexadecimal_23 gx_fu (0 : Int64) (0 : Int64) (0 : Int32) (0 : Int32) (0 : Int32) (iI i) (iI z) tc (iI (szD s)) (iI (szL s)) = f_Md_hexadecimal_23 m1 (iL ma1) (iL po1) (iI lo1) (iI ((0 : Nat) : Int)) (iI (0 + ((qI E z i).2 - i : Nat))) (iI (qI E z i).2) (iI z) tc (iI (szD s)) (iI (szL s)) := e1
  rw [e1']
  obtain ⟨m1, rfl⟩ : ∃ k, m1 = k + 1 := ⟨m1 - 1, by omega⟩
  rw [Nat.zero_mul, Nat.zero_add] at hS1
  have vb1 := hv_b (hr E z (qI E z i).2)
  rw [f_Md_hexadecimal_23, mhexD_spec h hE hz (by omega), Option.bind_some, if_neg (show ¬ (0 : Int32) ≤ iI (hv (hr E z (qI E z i).2)) from by simp (disch := omega) only [iI_lit, iL_lit, iI_add, iI_sub, iI_mul, iI_neg, iL_add, iL_sub, iL_mul, iL_neg, iI_lt, iI_le, iI_eq, iL_lt, iL_le, iL_eqS, iI_c, iI_ok, iI_l, iL_i, iI_low, l_ushrI, l_shlI, l_shrI, i_shlI, i_shrI, i_ushrI, iI_div, iL_div, Int.toNat_natCast, Int.reduceToNat, iI_ofNat]; omega), show (46 : Int32) = iI 46 from rfl, mdis_spec h hE hz (by omega) (by omega) (by omega), Option.bind_some]
  by_cases q : qDot E z i
  · obtain ⟨c1, c2, c3⟩ := b5 q
    have q' : hr E z (qI E z i).2 = 46 := q
    rw [if_pos q', if_neg (show ¬ iI 1 = 0 from by decide), if_pos (show iI ((0 : Nat) : Int) = 0 from rfl)]
    unfold f_Md_hexadecimal_44
    rw [show (46 : Int32) = iI 46 from rfl, mdis_spec h hE hz (by omega) (by omega) (by omega), Option.bind_some, if_pos q', if_neg (show ¬ iI 1 = 0 from by decide)]
    rw [show iI ((qI E z i).2 : Int) + 1 = iI (((qI E z i).2 + 1 : Nat) : Int) from by rw [show (1 : Int32) = iI 1 from rfl, iI_add]; rfl]
    obtain ⟨m2, ma2, lo2, po2, hm2, hS2, e2⟩ := mh_loop h hE hz (bh := 1) (by omega) (iI (szD s)) (iI (szL s)) (z - ((qI E z i).2 + 1)) ((qI E z i).2 + 1) m1 (qI E z i).1 0 (qI E z i).2 (0 + ((qI E z i).2 - i : Nat)) ma1 lo1 po1 (by omega) (by omega) (by omega) hS1
    have nd2 := hRun_dig E z (z - ((qI E z i).2 + 1)) (qI E z i).1 ((qI E z i).2 + 1) (by omega)
    have eF : hRun E z (z - ((qI E z i).2 + 1)) (qI E z i).1 ((qI E z i).2 + 1) = qF E z i := rfl
    rw [eF] at hm2 hS2 e2 nd2
    have eN : qN E z i = (qF E z i).1 := if_pos q
    have eE : qE E z i = (qF E z i).2 := if_pos q
    have ef : qf E z i = (qF E z i).2 - ((qI E z i).2 + 1) := if_pos q
    rw [Nat.one_mul, Nat.zero_add, ← ef, ← eN, ← eE] at hS2
    dsimp only
    rw [show (1 : Int32) = iI ((1 : Nat) : Int) from rfl, e2]
    obtain ⟨m2, rfl⟩ : ∃ k, m2 = k + 1 := ⟨m2 - 1, by omega⟩
    have vb2 := hv_b (hr E z (qF E z i).2)
    rw [f_Md_hexadecimal_23, mhexD_spec h hE hz (by omega), Option.bind_some, if_neg (show ¬ (0 : Int32) ≤ iI (hv (hr E z (qF E z i).2)) from by simp (disch := omega) only [iI_lit, iL_lit, iI_add, iI_sub, iI_mul, iI_neg, iL_add, iL_sub, iL_mul, iL_neg, iI_lt, iI_le, iI_eq, iL_lt, iL_le, iL_eqS, iI_c, iI_ok, iI_l, iL_i, iI_low, l_ushrI, l_shlI, l_shrI, i_shlI, i_shrI, i_ushrI, iI_div, iL_div, Int.toNat_natCast, Int.reduceToNat, iI_ofNat]; omega), show (46 : Int32) = iI 46 from rfl, mdis_spec h hE hz (by omega) (by omega) (by omega), Option.bind_some]
    have eA : (0 : Int) + ((qI E z i).2 - i : Nat) + ((qF E z i).2 - ((qI E z i).2 + 1) : Nat) = (qA E z i : Int) := by unfold qA; rw [ef]; omega
    rw [eA, ← eE]
    have fin := mh141 hs h hE hz hi hS2
    by_cases w : hr E z (qE E z i) = 46
    · rw [if_pos w, if_neg (show ¬ iI 1 = 0 from by decide), if_neg (show ¬ iI ((1 : Nat) : Int) = 0 from by decide)]
      exact fin
    · rw [if_neg w, if_pos (show iI 0 = 0 from rfl)]
      exact fin
  · have q' : ¬ hr E z (qI E z i).2 = 46 := q
    rw [if_neg q', if_pos (show iI 0 = 0 from rfl)]
    have eN : qN E z i = (qI E z i).1 := if_neg q
    have eE : qE E z i = (qI E z i).2 := if_neg q
    have ef : qf E z i = 0 := if_neg q
    rw [← eN, ← ef, ← eE] at hS1
    have eA : (0 : Int) + ((qI E z i).2 - i : Nat) = (qA E z i : Int) := by unfold qA; rw [ef]; omega
    rw [eA, ← eE]
    exact mh141 hs h hE hz hi hS1
-- YU
set_option maxRecDepth 10000 in
def wAtB (E : List Int32) (z : Nat) : List Int → Nat → Bool
  | [], _ => true
  | b :: w, i => decide (hr E z i = b) && wAtB E z w (i + 1)
set_option maxRecDepth 10000 in
abbrev wAt (E : List Int32) (z : Nat) (w : List Int) (i : Nat) : Prop := wAtB E z w i = true
set_option maxRecDepth 10000 in
theorem wAt_cons {E : List Int32} {z : Nat} {b : Int} {w : List Int} {i : Nat} : wAt E z (b :: w) i ↔ (hr E z i = b ∧ wAt E z w (i + 1)) := by
  show (decide (hr E z i = b) && wAtB E z w (i + 1)) = true ↔ _
  rw [Bool.and_eq_true, decide_eq_true_iff]
set_option maxRecDepth 10000 in
theorem wAt_len {E : List Int32} {z : Nat} : ∀ {w : List Int} {i : Nat}, (∀ b ∈ w, 0 ≤ b) → i ≤ z → wAt E z w i → i + w.length ≤ z
  | [], i, _, hi, _ => by simpa using hi
  | b :: w, i, hb, hi, h => by
    have h := wAt_cons.mp h
    have h0 := hb b (by simp)
    have hl := hr_in (E := E) (z := z) (i := i) (by rw [h.1]; exact h0)
    have := wAt_len (w := w) (i := i + 1) (fun x hx => hb x (by simp [hx])) (by omega) h.2
    simp only [List.length_cons]
    omega
set_option maxRecDepth 10000 in
def LW (o : Nat) (W : List Int) : Prop := o < 74 ∧ gl_byt.getD o [] = W.map iI ∧ (gl_len.getD o 0 : Nat) = W.length ∧ ∀ b ∈ W, 0 ≤ b ∧ b < 128
set_option maxRecDepth 10000 in
theorem pass20 {n : Nat} (hn : n < 90000) {len over : Int32} {c : Nat → Int32} {E : List Int32} (h : BY n len over c E) (hE : E.length ≤ n) {z i : Nat} (hz : z ≤ E.length) {o : Nat} {W : List Int} (hW : LW o W) (hl : i + W.length ≤ z) :
    ∀ (w : List Int) (j m : Nat), w = W.drop j → j ≤ W.length → w.length < m → f_Rd_passes_20 m o (iI j) n (iI z) (iI i) len c = some (if wAt E z w (i + j) then (iI 1, iI ((i + W.length : Nat) : Int)) else (iI 0, iI i))
  | [], j, m + 1, hw, hj, hm => by
    have hjl : j = W.length := by
      have := congrArg List.length hw
      simp at this
      omega
    rw [f_Rd_passes_20, if_pos hW.1, slen_spec hW.1, Option.bind_some, hW.2.2.1, if_pos (show iI ((W.length : Nat) : Int) ≤ iI (j : Int) from by simp (disch := omega) only [iI_lit, iL_lit, iI_add, iI_sub, iI_mul, iI_neg, iL_add, iL_sub, iL_mul, iL_neg, iI_lt, iI_le, iI_eq, iL_lt, iL_le, iL_eqS, iI_c, iI_ok, iI_l, iL_i, iI_low, l_ushrI, l_shlI, l_shrI, i_shlI, i_shrI, i_ushrI, iI_div, iL_div, Int.toNat_natCast, Int.reduceToNat, iI_ofNat]; omega), if_pos hW.1, Option.bind_some, iI_add]
    rw [if_pos (show wAt E z [] (i + j) from rfl)]
    rfl
  | b :: w, j, m + 1, hw, hj, hm => by
    have hjl : j < W.length := by
      have := congrArg List.length hw
      simp at this
      omega
    have hget : W[j]? = some b := by
      have : (W.drop j)[0]? = some b := by rw [← hw]; rfl
      rwa [List.getElem?_drop] at this
    have hmem : b ∈ W := List.mem_of_getElem? hget
    have hb := hW.2.2.2 b hmem
    have hw' : w = W.drop (j + 1) := by
      have : (b :: w).drop 1 = (W.drop j).drop 1 := by rw [hw]
      rw [List.drop_drop] at this
      simpa using this
    have hch : (gl_byt.getD o [])[j]? = some (iI b) := by rw [hW.2.1, List.getElem?_map, hget]; rfl
    have hhr : hr E z (i + j) = ubAt E (i + j) := if_pos (by omega)
    have hub := ubAt_b E (i + j)
    rw [f_Rd_passes_20, if_pos hW.1, slen_spec hW.1, Option.bind_some, hW.2.2.1, if_neg (show ¬ iI ((W.length : Nat) : Int) ≤ iI (j : Int) from by simp (disch := omega) only [iI_lit, iL_lit, iI_add, iI_sub, iI_mul, iI_neg, iL_add, iL_sub, iL_mul, iL_neg, iI_lt, iI_le, iI_eq, iL_lt, iL_le, iL_eqS, iI_c, iI_ok, iI_l, iL_i, iI_low, l_ushrI, l_shlI, l_shrI, i_shlI, i_shrI, i_ushrI, iI_div, iL_div, Int.toNat_natCast, Int.reduceToNat, iI_ofNat]; omega), iI_add, show (i : Int) + (j : Int) = ((i + j : Nat) : Int) from rfl, at_in (by omega) h hE (by omega), Option.bind_some, if_pos hW.1, charAt_spec hW.1 hch, Option.bind_some]
    by_cases q : hr E z (i + j) = b
    · rw [if_pos (show iI (ubAt E (i + j)) = iI b from by rw [← hhr, q])]
      rw [show iI (j : Int) + 1 = iI ((j + 1 : Nat) : Int) from by rw [show (1 : Int32) = iI 1 from rfl, iI_add]; rfl]
      rw [pass20 hn h hE hz hW hl w (j + 1) m hw' (by omega) (by simp at hm; omega)]
      have : wAt E z (b :: w) (i + j) = wAt E z w (i + (j + 1)) := by
        rw [show i + (j + 1) = i + j + 1 by omega]
        exact propext ⟨fun x => (wAt_cons.mp x).2, fun x => wAt_cons.mpr ⟨q, x⟩⟩
      simp only [this]
    · rw [if_neg (show ¬ iI (ubAt E (i + j)) = iI b from by rw [← hhr]; have := hr_b E z (i + j); simp (disch := omega) only [iI_lit, iL_lit, iI_add, iI_sub, iI_mul, iI_neg, iL_add, iL_sub, iL_mul, iL_neg, iI_lt, iI_le, iI_eq, iL_lt, iL_le, iL_eqS, iI_c, iI_ok, iI_l, iL_i, iI_low, l_ushrI, l_shlI, l_shrI, i_shlI, i_shrI, i_ushrI, iI_div, iL_div, Int.toNat_natCast, Int.reduceToNat, iI_ofNat]; omega), if_neg (show ¬ wAt E z (b :: w) (i + j) from fun x => q (wAt_cons.mp x).1)]
      rfl
set_option maxRecDepth 10000 in
theorem passes_spec {n : Nat} (hn : n < 90000) {len over : Int32} {c : Nat → Int32} {E : List Int32} (h : BY n len over c E) (hE : E.length ≤ n) {z i : Nat} (hz : z ≤ E.length) (hi : i ≤ z) {o : Nat} {W : List Int} (hW : LW o W) (hWl : W.length ≤ 8) : f_Rd_passes o n (iI z) (iI i) len c = some (if wAt E z W i then (iI 1, iI ((i + W.length : Nat) : Int)) else (iI 0, iI i)) := by
  unfold f_Rd_passes
  rw [if_pos hW.1, slen_spec hW.1, Option.bind_some, hW.2.2.1, iI_sub]
  by_cases q : i + W.length ≤ z
  · rw [if_pos (show iI ((W.length : Nat) : Int) ≤ iI ((z : Int) - i) from by simp (disch := omega) only [iI_lit, iL_lit, iI_add, iI_sub, iI_mul, iI_neg, iL_add, iL_sub, iL_mul, iL_neg, iI_lt, iI_le, iI_eq, iL_lt, iL_le, iL_eqS, iI_c, iI_ok, iI_l, iL_i, iI_low, l_ushrI, l_shlI, l_shrI, i_shlI, i_shrI, i_ushrI, iI_div, iL_div, Int.toNat_natCast, Int.reduceToNat, iI_ofNat]; omega)]
    have := pass20 hn h hE hz hW q W 0 gx_fu rfl (by omega) (by have := fu_pos; omega)
    exact this
  · rw [if_neg (show ¬ iI ((W.length : Nat) : Int) ≤ iI ((z : Int) - i) from by simp (disch := omega) only [iI_lit, iL_lit, iI_add, iI_sub, iI_mul, iI_neg, iL_add, iL_sub, iL_mul, iL_neg, iI_lt, iI_le, iI_eq, iL_lt, iL_le, iL_eqS, iI_c, iI_ok, iI_l, iL_i, iI_low, l_ushrI, l_shlI, l_shrI, i_shlI, i_shrI, i_ushrI, iI_div, iL_div, Int.toNat_natCast, Int.reduceToNat, iI_ofNat]; omega), if_neg (fun x => q (wAt_len (fun b hb => (hW.2.2.2 b hb).1) hi x))]
    rfl
set_option maxRecDepth 10000 in
theorem mword20 {t : Int32} {tc : Nat → Int32} {E : List Int32} (h : TP t tc E) (hE : E.length ≤ 65536) {z i : Nat} (hz : z ≤ E.length) {o : Nat} {W : List Int} (hW : LW o W) (hl : i + W.length ≤ z) :
    ∀ (w : List Int) (j m : Nat), w = W.drop j → j ≤ W.length → w.length < m → f_Md_word2_20 m o (iI j) (iI z) (iI i) tc = some (iI (if wAt E z w (i + j) then 1 else 0))
  | [], j, m + 1, hw, hj, hm => by
    have hjl : j = W.length := by
      have := congrArg List.length hw
      simp at this
      omega
    rw [f_Md_word2_20, if_pos hW.1, slen_spec hW.1, Option.bind_some, hW.2.2.1, if_pos (show iI ((W.length : Nat) : Int) ≤ iI (j : Int) from by simp (disch := omega) only [iI_lit, iL_lit, iI_add, iI_sub, iI_mul, iI_neg, iL_add, iL_sub, iL_mul, iL_neg, iI_lt, iI_le, iI_eq, iL_lt, iL_le, iL_eqS, iI_c, iI_ok, iI_l, iL_i, iI_low, l_ushrI, l_shlI, l_shrI, i_shlI, i_shrI, i_ushrI, iI_div, iL_div, Int.toNat_natCast, Int.reduceToNat, iI_ofNat]; omega)]
    rw [if_pos (show wAt E z [] (i + j) from rfl)]
    rfl
  | b :: w, j, m + 1, hw, hj, hm => by
    have hjl : j < W.length := by
      have := congrArg List.length hw
      simp at this
      omega
    have hget : W[j]? = some b := by
      have : (W.drop j)[0]? = some b := by rw [← hw]; rfl
      rwa [List.getElem?_drop] at this
    have hmem : b ∈ W := List.mem_of_getElem? hget
    have hb := hW.2.2.2 b hmem
    have hw' : w = W.drop (j + 1) := by
      have : (b :: w).drop 1 = (W.drop j).drop 1 := by rw [hw]
      rw [List.drop_drop] at this
      simpa using this
    have hch : (gl_byt.getD o [])[j]? = some (iI b) := by rw [hW.2.1, List.getElem?_map, hget]; rfl
    have hhr : hr E z (i + j) = ubAt E (i + j) := if_pos (by omega)
    obtain ⟨a, a0, a1, e, ea⟩ := tp_at h (show i + j < E.length by omega)
    rw [f_Md_word2_20, if_pos hW.1, slen_spec hW.1, Option.bind_some, hW.2.2.1, if_neg (show ¬ iI ((W.length : Nat) : Int) ≤ iI (j : Int) from by simp (disch := omega) only [iI_lit, iL_lit, iI_add, iI_sub, iI_mul, iI_neg, iL_add, iL_sub, iL_mul, iL_neg, iI_lt, iI_le, iI_eq, iL_lt, iL_le, iL_eqS, iI_c, iI_ok, iI_l, iL_i, iI_low, l_ushrI, l_shlI, l_shrI, i_shlI, i_shrI, i_ushrI, iI_div, iL_div, Int.toNat_natCast, Int.reduceToNat, iI_ofNat]; omega), iI_add, show (i : Int) + (j : Int) = ((i + j : Nat) : Int) from rfl, if_pos (show gx_ok (iI ((i + j : Nat) : Int)) 65536 = true from by simp (disch := omega) only [iI_lit, iL_lit, iI_add, iI_sub, iI_mul, iI_neg, iL_add, iL_sub, iL_mul, iL_neg, iI_lt, iI_le, iI_eq, iL_lt, iL_le, iL_eqS, iI_c, iI_ok, iI_l, iL_i, iI_low, l_ushrI, l_shlI, l_shrI, i_shlI, i_shrI, i_ushrI, iI_div, iL_div, Int.toNat_natCast, Int.reduceToNat, iI_ofNat]; omega), if_pos hW.1, charAt_spec hW.1 hch, Option.bind_some, iI_c (by omega) (by omega), Int.toNat_natCast, e]
    have hsb : (iI b).toInt8.toInt32 = iI b := sb_small (by omega) (by omega)
    rw [hsb]
    by_cases q : hr E z (i + j) = b
    · have eab : a = b := by rw [hhr, ea] at q; split at q <;> omega
      rw [if_pos (show iI a = iI b from by rw [eab])]
      rw [show iI (j : Int) + 1 = iI ((j + 1 : Nat) : Int) from by rw [show (1 : Int32) = iI 1 from rfl, iI_add]; rfl]
      rw [mword20 h hE hz hW hl w (j + 1) m hw' (by omega) (by simp at hm; omega)]
      have : wAt E z (b :: w) (i + j) = wAt E z w (i + (j + 1)) := by
        rw [show i + (j + 1) = i + j + 1 by omega]
        exact propext ⟨fun x => (wAt_cons.mp x).2, fun x => wAt_cons.mpr ⟨q, x⟩⟩
      simp only [this]
    · have eab : ¬ a = b := by rw [hhr, ea] at q; intro x; rw [x, if_pos hb.1] at q; exact q rfl
      rw [if_neg (show ¬ iI a = iI b from by simp (disch := omega) only [iI_lit, iL_lit, iI_add, iI_sub, iI_mul, iI_neg, iL_add, iL_sub, iL_mul, iL_neg, iI_lt, iI_le, iI_eq, iL_lt, iL_le, iL_eqS, iI_c, iI_ok, iI_l, iL_i, iI_low, l_ushrI, l_shlI, l_shrI, i_shlI, i_shrI, i_ushrI, iI_div, iL_div, Int.toNat_natCast, Int.reduceToNat, iI_ofNat]; omega), if_neg (show ¬ wAt E z (b :: w) (i + j) from fun x => q (wAt_cons.mp x).1)]
      rfl
set_option maxRecDepth 10000 in
theorem mword_spec {t : Int32} {tc : Nat → Int32} {E : List Int32} (h : TP t tc E) (hE : E.length ≤ 65536) {z i : Nat} (hz : z ≤ E.length) (hi : i ≤ z) {o : Nat} {W : List Int} (hW : LW o W) (hWl : W.length ≤ 8) : f_Md_word2 o (iI z) (iI i) tc = some (iI (if wAt E z W i ∧ i + W.length = z then 1 else 0)) := by
  unfold f_Md_word2
  rw [if_pos hW.1, slen_spec hW.1, Option.bind_some, hW.2.2.1, iI_sub]
  by_cases q : i + W.length = z
  · rw [if_pos (show iI ((z : Int) - i) = iI ((W.length : Nat) : Int) from by simp (disch := omega) only [iI_lit, iL_lit, iI_add, iI_sub, iI_mul, iI_neg, iL_add, iL_sub, iL_mul, iL_neg, iI_lt, iI_le, iI_eq, iL_lt, iL_le, iL_eqS, iI_c, iI_ok, iI_l, iL_i, iI_low, l_ushrI, l_shlI, l_shrI, i_shlI, i_shrI, i_ushrI, iI_div, iL_div, Int.toNat_natCast, Int.reduceToNat, iI_ofNat]; omega)]
    have := mword20 (z := z) (i := i) h hE hz hW (by omega) W 0 gx_fu rfl (by omega) (by have := fu_pos; omega)
    refine Eq.trans this ?_
    have e : (wAt E z W (i + 0)) = (wAt E z W i ∧ i + W.length = z) := propext ⟨fun x => ⟨x, q⟩, fun x => x.1⟩
    simp only [e]
  · rw [if_neg (show ¬ iI ((z : Int) - i) = iI ((W.length : Nat) : Int) from by simp (disch := omega) only [iI_lit, iL_lit, iI_add, iI_sub, iI_mul, iI_neg, iL_add, iL_sub, iL_mul, iL_neg, iI_lt, iI_le, iI_eq, iL_lt, iL_le, iL_eqS, iI_c, iI_ok, iI_l, iL_i, iI_low, l_ushrI, l_shlI, l_shrI, i_shlI, i_shrI, i_ushrI, iI_div, iL_div, Int.toNat_natCast, Int.reduceToNat, iI_ofNat]; omega), if_neg (fun x => q x.2)]
    rfl
set_option maxRecDepth 10000 in
def wN : List Int := [78, 97, 78]
set_option maxRecDepth 10000 in
def wI : List Int := [73, 110, 102, 105, 110, 105, 116, 121]
set_option maxRecDepth 10000 in
def wx : List Int := [48, 120]
set_option maxRecDepth 10000 in
def wX : List Int := [48, 88]
set_option maxRecDepth 10000 in
theorem LW7 : LW 7 wN := ⟨by decide, by decide, by decide, by decide⟩
set_option maxRecDepth 10000 in
theorem LW8 : LW 8 wI := ⟨by decide, by decide, by decide, by decide⟩
set_option maxRecDepth 10000 in
theorem LW9 : LW 9 wx := ⟨by decide, by decide, by decide, by decide⟩
set_option maxRecDepth 10000 in
theorem LW10 : LW 10 wX := ⟨by decide, by decide, by decide, by decide⟩
set_option maxRecDepth 10000 in
theorem LW45 : LW 45 wN := ⟨by decide, by decide, by decide, by decide⟩
set_option maxRecDepth 10000 in
theorem LW46 : LW 46 wI := ⟨by decide, by decide, by decide, by decide⟩
-- YV
set_option maxRecDepth 10000 in
def sfx (E : List Int32) (z a : Nat) : Nat := if hr E z a = 102 ∨ hr E z a = 70 ∨ hr E z a = 100 ∨ hr E z a = 68 then a + 1 else a
set_option maxRecDepth 10000 in
theorem sfx_b {E : List Int32} {z a : Nat} (h : a ≤ z) : a ≤ sfx E z a ∧ sfx E z a ≤ z := by
  unfold sfx
  split
  · rename_i q
    have := hr_in (E := E) (z := z) (i := a) (by omega)
    omega
  · omega
set_option maxRecDepth 10000 in
abbrev hexP (E : List Int32) (z i : Nat) : Prop := wAt E z wx i ∨ wAt E z wX i
set_option maxRecDepth 10000 in
theorem hexP_in {E : List Int32} {z i : Nat} (hi : i ≤ z) (h : hexP E z i) : i + 2 ≤ z := by
  rcases h with h | h
  · exact wAt_len (by decide) hi h
  · exact wAt_len (by decide) hi h
set_option maxRecDepth 10000 in
abbrev okP (E : List Int32) (z i : Nat) : Prop :=
  if wAt E z wN i then i + 3 = z else if wAt E z wI i then i + 8 = z else if hexP E z i then qOK E z (i + 2) ∧ sfx E z (qZ E z (i + 2)) = z else pOK E z i ∧ sfx E z (pZ E z i) = z
set_option maxRecDepth 10000 in
def CR (E : List Int32) (z i : Nat) (fo m t : Int) : Prop :=
  if wAt E z wN i then fo = 0 else if wAt E z wI i then fo = 1 else if hexP E z i then fo = 2 ∧ (qN E z (i + 2) = 0 → m = 0) ∧ (0 < qN E z (i + 2) → ∀ s, s < 2 → ∀ b, isBL m b → HX s (qN E z (i + 2)) (xC E z (qE E z (i + 2) + 1) - 4 * (qf E z (i + 2) : Int)) (roV s m t b))
  else (fo = 1 ∨ fo = 2) ∧ (pN E z i = 0 → m = 0 ∧ fo = 2) ∧ (0 < pN E z i → ∀ s, s < 2 → ∀ b, isBL m b → DEC s (pN E z i) ((nd (pN E z i) : Int) - pf E z i + pXC E z i) (if fo = 1 then (2 ^ szK s - 1) * 2 ^ (szD s - 1) else roV s m t b))
set_option maxRecDepth 10000 in
def rdP (E : List Int32) (z i : Nat) (ng : Int32) (x : Option (Int32 × Int32 × Int32 × Int32 × Int32 × (Nat → Int32) × Int32 × Int32 × Int32 × Int32 × Int32 × Int32 × Int32 × (Nat → Int32) × Int64 × Int32)) : Prop :=
  ∃ u1 u2 ns nc ke t ch un ex lo ds dc m fo, x = some (iI (if okP E z i then 1 else 0), u1, u2, ng, ns, nc, ke, iI t, ch, un, ex, lo, ds, dc, iL m, iI fo) ∧ (okP E z i → 0 ≤ fo ∧ fo ≤ 2 ∧ (¬ wAt E z wN i ∧ ¬ wAt E z wI i → 0 ≤ m ∧ m < 4611686018427387904 ∧ -1100000000 ≤ t ∧ t ≤ 1100000000) ∧ CR E z i fo m t)
set_option maxRecDepth 10000 in
theorem pXC_b (E : List Int32) (z i : Nat) : -1000000000 ≤ pXC E z i ∧ pXC E z i ≤ 1000000000 := by
  unfold pXC
  have := x_rel E z (pE E z i + 1)
  split <;> omega
set_option maxRecDepth 10000 in
theorem read153 {n : Nat} (hn : n < 90000) {len over : Int32} {c : Nat → Int32} {E : List Int32} (h : BY n len over c E) (hE : E.length ≤ n) {z a : Nat} (hz : z ≤ E.length) (ha : a ≤ z) (v1 ng ns ke po ch un ex lo ds fo : Int32) (nc dc : Nat → Int32) (ma : Int64) :
    f_Rd_read_153 v1 n len (iI a) c (iI z) ng ns nc ke po ch un ex lo ds dc ma fo = f_Rd_read_199 v1 n len (iI (sfx E z a)) c (iI z) ng ns nc ke po ch un ex lo ds dc ma fo := by
  have e1 : iI (a : Int) + 1 = iI ((a + 1 : Nat) : Int) := by rw [show (1 : Int32) = iI 1 from rfl, iI_add]; rfl
  unfold f_Rd_read_153 f_Rd_read_189 sfx
  rw [show (102 : Int32) = iI 102 from rfl, show (70 : Int32) = iI 70 from rfl, show (100 : Int32) = iI 100 from rfl, show (68 : Int32) = iI 68 from rfl, sees_spec (by omega) h hE hz (by omega) (by omega) (by omega), Option.bind_some, sees_spec (by omega) h hE hz (by omega) (by omega) (by omega), Option.bind_some, sees_spec (by omega) h hE hz (by omega) (by omega) (by omega), Option.bind_some, sees_spec (by omega) h hE hz (by omega) (by omega) (by omega), Option.bind_some, e1]
  have n1 : ¬ iI 1 = 0 := by decide
  have n0 : iI 0 = 0 := rfl
  by_cases q1 : hr E z a = 102
  · rw [if_pos q1, if_neg n1, if_pos (Or.inl q1)]
  · rw [if_neg q1, if_pos n0]
    by_cases q2 : hr E z a = 70
    · rw [if_pos q2, if_neg n1, if_pos (Or.inr (Or.inl q2))]
    · rw [if_neg q2, if_pos n0]
      by_cases q3 : hr E z a = 100
      · rw [if_pos q3, if_neg n1, if_pos (Or.inr (Or.inr (Or.inl q3)))]
      · rw [if_neg q3, if_pos n0]
        by_cases q4 : hr E z a = 68
        · rw [if_pos q4, if_neg n1, if_pos (Or.inr (Or.inr (Or.inr q4)))]
        · rw [if_neg q4, if_pos n0, if_neg (by omega)]
set_option maxRecDepth 10000 in
theorem readD {n : Nat} (hn : n < 90000) {len over : Int32} {c : Nat → Int32} {E : List Int32} (h : BY n len over c E) (hE : E.length ≤ n) (hE2 : E.length ≤ 65536) {z i : Nat} (hz : z ≤ E.length) (hi : i ≤ z) (k1 : ¬ wAt E z wN i) (k2 : ¬ wAt E z wI i) (k3 : ¬ hexP E z i) {ns : Int32} {nc : Nat → Int32} (hB : BR ns nc 0) (ng ds : Int32) (dc : Nat → Int32) :
    rdP E z i ng (f_Rd_read_129 0 n len (iI i) c (iI z) ng ns nc 0 0 0 1 0 0 ds dc 0 2) := by
  have hok : okP E z i = (pOK E z i ∧ sfx E z (pZ E z i) = z) := by unfold okP; rw [if_neg k1, if_neg k2, if_neg k3]
  obtain ⟨b1, b2, b3, b4, b5, b6, b7⟩ := p_b (E := E) hi
  have hR0 : RS 0 0 (0 : Int32) (0 : Int32) (1 : Int32) ns nc (0 : Int32) (0 : Int32) := by
    refine ⟨0, 0, 0, ?_, rfl, rfl, by omega, by omega, by decide, hB, ?_, ?_, ?_⟩
    · rw [nd_zero]; rfl
    · rw [Nat.zero_div]; rfl
    · rw [Nat.zero_mod]; rfl
    · rw [nd_zero]; rfl
  obtain ⟨at', ex, ke', po', ch', un', ns', nc', lo', e1, ha, hR, hp⟩ := rdec_spec hn h hE hz hi hR0
  unfold f_Rd_read_129 rdP
  rw [if_pos rfl]
  have e1' : f_Rd_readDecimal n (iI i) (iI z) len c 0 0 0 1 ns nc 0 0 = some (iI (if pOK E z i then 1 else 0), iI at', ke', po', ch', un', ns', nc', iI ex, lo') := e1
  rw [e1', Option.bind_some]
  dsimp only
  by_cases q : pOK E z i
  · obtain ⟨rfl, rfl⟩ := hp q
    have hsb := sfx_b (E := E) ha
    rw [if_pos q, if_neg (show ¬ iI 1 = 0 from by decide), read153 hn h hE hz ha]
    unfold f_Rd_read_199
    by_cases w : sfx E z (pZ E z i) = z
    · rw [if_pos (show iI (sfx E z (pZ E z i) : Int) = iI z from by rw [w]), if_pos rfl]
      have hxb := pXC_b E z i
      obtain ⟨ns2, nc2, po2, ke2, ds2, dc2, m, fo, e2, m0, m1, t0, t1, f12, g0, g1⟩ := fd_spec (E := pXC E z i) (show nd (pN E z i) ≤ 65536 by omega) (show pf E z i ≤ 65536 by omega) (by omega) (by omega) hR ds dc
      have e2' : f_Rd_finishDecimal un' ch' ns' nc' lo' po' (iI (pXC E z i)) ke' ds dc 0 2 = some (iI 1, iI 0, ns2, nc2, iI po2, ke2, ds2, dc2, iL m, iI fo) := e2
      rw [e2', Option.bind_some, if_pos (show okP E z i by rw [hok]; exact ⟨q, w⟩)]
      refine ⟨_, _, _, _, _, po2, _, _, _, _, _, _, m, fo, rfl, fun _ => ⟨by omega, by omega, fun _ => ⟨m0, m1, t0, t1⟩, ?_⟩⟩
      unfold CR
      rw [if_neg k1, if_neg k2, if_neg k3]
      exact ⟨f12, g0, g1⟩
    · rw [if_neg (show ¬ iI (sfx E z (pZ E z i) : Int) = iI z from by simp (disch := omega) only [iI_lit, iL_lit, iI_add, iI_sub, iI_mul, iI_neg, iL_add, iL_sub, iL_mul, iL_neg, iI_lt, iI_le, iI_eq, iL_lt, iL_le, iL_eqS, iI_c, iI_ok, iI_l, iL_i, iI_low, l_ushrI, l_shlI, l_shrI, i_shlI, i_shrI, i_ushrI, iI_div, iL_div, Int.toNat_natCast, Int.reduceToNat, iI_ofNat]; omega), if_neg (show ¬ okP E z i by rw [hok]; exact fun x => w x.2)]
      obtain ⟨Nb, cc, j, _, _, _, _, _, _, _, _, _, epo⟩ := hR
      rw [epo]
      exact ⟨_, _, _, _, _, _, _, _, _, _, _, _, 0, 2, rfl, fun x => by rw [hok] at x; exact absurd x.2 w⟩
  · rw [if_neg q, if_pos (show iI 0 = 0 from rfl), if_neg (show ¬ okP E z i by rw [hok]; exact fun x => q x.1)]
    obtain ⟨Nb, cc, j, _, _, _, _, _, _, _, _, _, epo⟩ := hR
    rw [epo]
    exact ⟨_, _, _, _, _, _, _, _, _, _, _, _, 0, 2, rfl, fun x => by rw [hok] at x; exact absurd x.1 q⟩
set_option maxRecDepth 10000 in
theorem readH {n : Nat} (hn : n < 90000) {len over : Int32} {c : Nat → Int32} {E : List Int32} (h : BY n len over c E) (hE : E.length ≤ n) (hE2 : E.length ≤ 65536) {z i : Nat} (hz : z ≤ E.length) (hi : i ≤ z) (k1 : ¬ wAt E z wN i) (k2 : ¬ wAt E z wI i) (k3 : hexP E z i) (ng ns ds : Int32) (nc dc : Nat → Int32) :
    rdP E z i ng (f_Rd_read_129 1 n len (iI ((i + 2 : Nat) : Int)) c (iI z) ng ns nc 0 0 0 1 0 0 ds dc 0 2) := by
  have hok : okP E z i = (qOK E z (i + 2) ∧ sfx E z (qZ E z (i + 2)) = z) := by unfold okP; rw [if_neg k1, if_neg k2, if_pos k3]
  have hi2 := hexP_in hi k3
  obtain ⟨b1, b2, b3, b4, b5⟩ := q_b (E := E) hi2
  obtain ⟨at', ex, ma, lo, po, e1, ha, hS, hp⟩ := rhex_spec hn h hE hz hi2
  unfold f_Rd_read_129 rdP
  rw [if_neg (show ¬ (1 : Int32) = 0 from by decide)]
  have e1' : f_Rd_readHexadecimal n (iI ((i + 2 : Nat) : Int)) (iI z) len c 0 0 0 0 = some (iI (if qOK E z (i + 2) then 1 else 0), iI at', iL ma, iI lo, iI po, iI ex) := e1
  rw [e1', Option.bind_some]
  dsimp only
  by_cases q : qOK E z (i + 2)
  · obtain ⟨rfl, rfl⟩ := hp q
    have hsb := sfx_b (E := E) ha
    rw [if_pos q, if_neg (show ¬ iI 1 = 0 from by decide), read153 hn h hE hz ha]
    unfold f_Rd_read_199
    by_cases w : sfx E z (qZ E z (i + 2)) = z
    · rw [if_pos (show iI (sfx E z (qZ E z (i + 2)) : Int) = iI z from by rw [w]), if_neg (show ¬ (1 : Int32) = 0 from by decide)]
      obtain ⟨_, x0, x1, _⟩ := x_rel E z (qE E z (i + 2) + 1)
      obtain ⟨m, po2, e2, m0, m1, t0, t1, g0, g1⟩ := fh_spec hS (by omega) x0 x1
      rw [e2, Option.bind_some, if_pos (show okP E z i by rw [hok]; exact ⟨q, w⟩)]
      refine ⟨_, _, _, _, _, po2, _, _, _, _, _, _, m, 2, rfl, fun _ => ⟨by omega, by omega, fun _ => ⟨m0, m1, t0, t1⟩, ?_⟩⟩
      unfold CR
      rw [if_neg k1, if_neg k2, if_pos k3]
      exact ⟨rfl, g0, g1⟩
    · rw [if_neg (show ¬ iI (sfx E z (qZ E z (i + 2)) : Int) = iI z from by simp (disch := omega) only [iI_lit, iL_lit, iI_add, iI_sub, iI_mul, iI_neg, iL_add, iL_sub, iL_mul, iL_neg, iI_lt, iI_le, iI_eq, iL_lt, iL_le, iL_eqS, iI_c, iI_ok, iI_l, iL_i, iI_low, l_ushrI, l_shlI, l_shrI, i_shlI, i_shrI, i_ushrI, iI_div, iL_div, Int.toNat_natCast, Int.reduceToNat, iI_ofNat]; omega), if_neg (show ¬ okP E z i by rw [hok]; exact fun x => w x.2)]
      exact ⟨_, _, _, _, _, _, _, _, _, _, _, _, ma, 2, rfl, fun x => by rw [hok] at x; exact absurd x.2 w⟩
  · rw [if_neg q, if_pos (show iI 0 = 0 from rfl), if_neg (show ¬ okP E z i by rw [hok]; exact fun x => q x.1)]
    exact ⟨_, _, _, _, _, _, _, _, _, _, _, _, ma, 2, rfl, fun x => by rw [hok] at x; exact absurd x.1 q⟩
-- YW
set_option maxRecDepth 10000 in
theorem rdP_word {E : List Int32} {z i L : Nat} {ng : Int32} (hLz : i + L ≤ z) (hz : z ≤ 100000) (fo : Int) (hfo : fo = 0 ∨ fo = 1) (hw : wAt E z wN i ∨ wAt E z wI i) (hok : okP E z i = (i + L = z)) (hCR : ∀ m t, CR E z i fo m t) (ns ke ch un ex lo ds : Int32) (nc dc : Nat → Int32) (po : Int32) (ma : Int64) (x : Int32) (hx : x = iI fo) :
    rdP E z i ng (if iI ((i + L : Nat) : Int) = iI (z : Int) then some (1, iI ((i + L : Nat) : Int), iI (z : Int), ng, ns, nc, ke, po, ch, un, ex, lo, ds, dc, ma, x) else some (0, iI ((i + L : Nat) : Int), iI (z : Int), ng, ns, nc, ke, po, ch, un, ex, lo, ds, dc, ma, x)) := by
  obtain ⟨t, _, _, rfl⟩ := iI_ex po
  obtain ⟨m, _, _, rfl⟩ := iL_ex ma
  unfold rdP
  by_cases q : i + L = z
  · rw [if_pos (show iI ((i + L : Nat) : Int) = iI (z : Int) from by rw [q]), if_pos (show okP E z i by rw [hok]; exact q), hx]
    exact ⟨_, _, _, _, _, t, _, _, _, _, _, _, m, fo, rfl, fun _ => ⟨by omega, by omega, fun w => by rcases hw with x | x; exact absurd x w.1; exact absurd x w.2, hCR m t⟩⟩
  · rw [if_neg (show ¬ iI ((i + L : Nat) : Int) = iI (z : Int) from by simp (disch := omega) only [iI_lit, iL_lit, iI_add, iI_sub, iI_mul, iI_neg, iL_add, iL_sub, iL_mul, iL_neg, iI_lt, iI_le, iI_eq, iL_lt, iL_le, iL_eqS, iI_c, iI_ok, iI_l, iL_i, iI_low, l_ushrI, l_shlI, l_shrI, i_shlI, i_shrI, i_ushrI, iI_div, iL_div, Int.toNat_natCast, Int.reduceToNat, iI_ofNat]; omega), if_neg (show ¬ okP E z i by rw [hok]; exact q), hx]
    exact ⟨_, _, _, _, _, t, _, _, _, _, _, _, m, fo, rfl, fun w => by rw [hok] at w; exact absurd w q⟩
set_option maxRecDepth 10000 in
theorem read40 {n : Nat} (hn : n < 90000) {len over : Int32} {c : Nat → Int32} {E : List Int32} (h : BY n len over c E) (hE : E.length ≤ n) (hE2 : E.length ≤ 65536) {z i : Nat} (hz : z ≤ E.length) (hi : i ≤ z) (ng ns ke po ch un ex lo ds fo : Int32) (nc dc : Nat → Int32) (ma : Int64) :
    rdP E z i ng (f_Rd_read_40 n len (iI i) c (iI z) ng ns nc ke po ch un ex lo ds dc ma fo) := by
  unfold f_Rd_read_40 f_Rd_read_124
  rw [passes_spec hn h hE hz hi LW7 (by decide), Option.bind_some]
  by_cases k1 : wAt E z wN i
  · have hl := wAt_len (by decide) hi k1
    rw [if_pos k1]
    dsimp only
    rw [if_neg (show ¬ iI 1 = 0 from by decide)]
    exact rdP_word hl (by omega) 0 (Or.inl rfl) (Or.inl k1) (by unfold okP; rw [if_pos k1]; rfl) (fun m t => by unfold CR; rw [if_pos k1]) ns ke ch un ex lo ds nc dc po ma 0 rfl
  · rw [if_neg k1]
    dsimp only
    rw [if_pos (show iI 0 = 0 from rfl), passes_spec hn h hE hz hi LW8 (by decide), Option.bind_some]
    by_cases k2 : wAt E z wI i
    · have hl := wAt_len (by decide) hi k2
      rw [if_pos k2]
      dsimp only
      rw [if_neg (show ¬ iI 1 = 0 from by decide)]
      exact rdP_word hl (by omega) 1 (Or.inr rfl) (Or.inr k2) (by unfold okP; rw [if_neg k1, if_pos k2]; rfl) (fun m t => by unfold CR; rw [if_neg k1, if_pos k2]) ns ke ch un ex lo ds nc dc po ma 1 rfl
    · rw [if_neg k2]
      dsimp only
      rw [if_pos (show iI 0 = 0 from rfl)]
      unfold f_Rd_startNumber
      obtain ⟨s0, c0, e0, g0⟩ := set_spec (v := 0) (by omega) (by omega) ns nc
      rw [show (0 : Int64) = iL 0 from rfl, e0, Option.bind_some, Option.bind_some, passes_spec hn h hE hz hi LW9 (by decide), Option.bind_some]
      dsimp only
      by_cases k3 : wAt E z wx i
      · rw [if_pos k3]
        dsimp only
        rw [if_neg (show ¬ iI 1 = 0 from by decide)]
        exact readH hn h hE hE2 hz hi k1 k2 (Or.inl k3) ng s0 ds c0 dc
      · rw [if_neg k3]
        dsimp only
        rw [if_pos (show iI 0 = 0 from rfl), passes_spec hn h hE hz hi LW10 (by decide), Option.bind_some]
        by_cases k4 : wAt E z wX i
        · rw [if_pos k4]
          dsimp only
          rw [if_neg (show ¬ iI 1 = 0 from by decide)]
          exact readH hn h hE hE2 hz hi k1 k2 (Or.inr k4) ng s0 ds c0 dc
        · rw [if_neg k4]
          dsimp only
          rw [if_pos (show iI 0 = 0 from rfl)]
          exact readD hn h hE hE2 hz hi k1 k2 (fun x => by rcases x with x | x; exact k3 x; exact k4 x) g0 ng ds dc
set_option maxRecDepth 10000 in
theorem tailB_ge (E : List Int32) (a : Nat) : ∀ k, a ≤ k → a ≤ tailB E a k
  | 0, h => by unfold tailB; exact h
  | n + 1, h => by
    unfold tailB
    split
    · omega
    · split
      · exact tailB_ge E a n (by omega)
      · omega
set_option maxRecDepth 10000 in
def tA (E : List Int32) : Nat := headB E E.length 0
set_option maxRecDepth 10000 in
def tZ (E : List Int32) : Nat := tailB E (tA E) E.length
set_option maxRecDepth 10000 in
theorem t_b (E : List Int32) : tA E ≤ tZ E ∧ tZ E ≤ E.length := by
  have a := headB_b E E.length 0
  have b := tailB_b E (tA E) E.length
  have c := tailB_ge E (tA E) E.length (by unfold tA; omega)
  exact ⟨c, b⟩
set_option maxRecDepth 10000 in
def tI (E : List Int32) : Nat := if hr E (tZ E) (tA E) = 45 ∨ hr E (tZ E) (tA E) = 43 then tA E + 1 else tA E
set_option maxRecDepth 10000 in
theorem tI_b (E : List Int32) : tI E ≤ tZ E := by
  have := t_b E
  unfold tI
  split
  · have := hr_in (E := E) (z := tZ E) (i := tA E) (by omega); omega
  · omega
set_option maxRecDepth 10000 in
def tM (E : List Int32) : Int := if hr E (tZ E) (tA E) = 45 then 1 else 0
set_option maxRecDepth 10000 in
theorem read_spec {n : Nat} (hn : n < 90000) {len over : Int32} {c : Nat → Int32} {E : List Int32} (h : BY n len over c E) (hE : E.length ≤ n) (hE2 : E.length ≤ 65536) (at_ st ng ns ke po ch un ex lo ds fo : Int32) (nc dc : Nat → Int32) (ma : Int64) :
    rdP E (tZ E) (tI E) (iI (tM E)) (f_Rd_read n len at_ c st ng ns nc ke po ch un ex lo ds dc ma fo) := by
  obtain ⟨b1, b2⟩ := t_b E
  unfold f_Rd_read f_Rd_read_30
  rw [blanks_spec hn h hE, Option.bind_some]
  dsimp only
  rw [show headB E E.length 0 = tA E from rfl, show tailB E (tA E) E.length = tZ E from rfl]
  rw [show (45 : Int32) = iI 45 from rfl, show (43 : Int32) = iI 43 from rfl, sees_spec (by omega) h hE b2 (by omega) (by omega) (by omega), Option.bind_some, sees_spec (by omega) h hE b2 (by omega) (by omega) (by omega), Option.bind_some]
  have e1 : iI (tA E : Int) + 1 = iI ((tA E + 1 : Nat) : Int) := by rw [show (1 : Int32) = iI 1 from rfl, iI_add]; rfl
  rw [e1]
  have hI := tI_b E
  by_cases q : hr E (tZ E) (tA E) = 45
  · have eI : tI E = tA E + 1 := if_pos (Or.inl q)
    have eM : tM E = 1 := if_pos q
    rw [if_pos q, if_pos (show gx_bo (iI 1) = true from by decide), if_neg (show ¬ iI 1 = 0 from by decide), eM, eI]
    rw [eI] at hI
    exact read40 hn h hE hE2 b2 hI _ _ _ _ _ _ _ _ _ _ _ _ _
  · rw [if_neg q, if_pos (show gx_bo (iI 0) = true from by decide), if_pos (show iI 0 = 0 from rfl)]
    have eM : tM E = 0 := if_neg q
    by_cases w : hr E (tZ E) (tA E) = 43
    · have eI : tI E = tA E + 1 := if_pos (Or.inr w)
      rw [if_pos w, if_neg (show ¬ iI 1 = 0 from by decide), eM, eI]
      rw [eI] at hI
      exact read40 hn h hE hE2 b2 hI _ _ _ _ _ _ _ _ _ _ _ _ _
    · have eI : tI E = tA E := if_neg (by omega)
      rw [if_neg w, if_pos (show iI 0 = 0 from rfl), eM, eI]
      rw [eI] at hI
      exact read40 hn h hE hE2 b2 hI _ _ _ _ _ _ _ _ _ _ _ _ _
