-- XN
set_option maxRecDepth 10000 in
theorem wh_len (δ : Nat → Nat) (p : Int) (g : Prop) [Decidable g] (L : Int) : ∀ (d i : Nat), (i : Int) + d = L → ((List.range' i d).flatMap (wholeAt δ p g L)).length ≤ d + d / 3
  | 0, i, h => by simp
  | d + 1, i, h => by
    have ih := wh_len δ p g L d (i + 1) (by omega)
    rw [List.range'_succ, List.flatMap_cons, List.length_append]
    have hw : (wholeAt δ p g L i).length ≤ 1 + (if (d + 1) % 3 = 0 then 1 else 0) := by
      unfold wholeAt
      rw [List.length_append]
      by_cases q : g ∧ 0 < i ∧ (L - i) % 3 = 0
      · rw [if_pos q, if_pos (by omega)]; simp
      · rw [if_neg q]; simp
    split at hw <;> omega
set_option maxRecDepth 10000 in
theorem wholeE_len (δ : Nat → Nat) (p : Int) (g : Prop) [Decidable g] : (wholeE δ p g).length ≤ (max p 1).toNat + (max p 1).toNat / 3 := by
  unfold wholeE
  exact wh_len δ p g (max p 1) (max p 1).toNat 0 (by omega)
set_option maxRecDepth 10000 in
theorem pntE_len (a : Int) (sh : Prop) [Decidable sh] : (pntE a sh).length ≤ 1 := by unfold pntE; split <;> simp
set_option maxRecDepth 10000 in
theorem numE_len (v w : Int) : (numE v w).length ≤ 4 := by
  have h : ∀ u d, (numAt v w u d).length ≤ 1 := fun u d => by unfold numAt; split <;> simp
  unfold numE
  have h1 := h 1000 4; have h2 := h 100 3; have h3 := h 10 2; have h4 := h 1 1
  simp only [List.length_append]
  omega
set_option maxRecDepth 10000 in
theorem sciT_len (δ : Nat → Nat) (e a : Int) (sh : Prop) [Decidable sh] : (sciT δ e a sh).length ≤ a.toNat + 8 := by
  have h1 := pntE_len a sh
  have h2 := numE_len (if 0 ≤ e then e else -e) 2
  unfold sciT expE
  simp only [List.length_append, digE_len, List.length_cons, List.length_nil]
  omega
set_option maxRecDepth 10000 in
theorem fixT_len (δ : Nat → Nat) (P : Int) (g : Prop) [Decidable g] (a : Int) (sh : Prop) [Decidable sh] : (fixT δ P g a sh).length ≤ (max P 1).toNat + (max P 1).toNat / 3 + 1 + a.toNat := by
  have h1 := pntE_len a sh
  have h2 := wholeE_len δ P g
  unfold fixT
  simp only [List.length_append, digE_len]
  omega
set_option maxRecDepth 10000 in
theorem decX_len {v q : Int} (h0 : 0 ≤ v) (h1 : v < 72057594037927936) (hq0 : -1074 ≤ q) (hq1 : q ≤ 971) {a : Int} (a0 : 0 ≤ a) (a1 : a ≤ 9999) (le : Int) (g sh : Prop) [Decidable g] [Decidable sh] : (decX le v q a g sh).length ≤ a.toNat + 600 := by
  obtain ⟨p0, p1⟩ := ptV_b h0 h1 hq0 hq1
  unfold decX
  split
  · unfold sciX
    have := sciT_len (rndF (dgV v q) (a + 1)) (ptV v q + rndC (dgV v q) (a + 1) - 1) a sh
    omega
  · split
    · unfold genX
      have hr := rndC_b (dgV v q) (max a 1)
      split
      · have := sciT_len (rndF (dgV v q) (max a 1)) (ptV v q + rndC (dgV v q) (max a 1) - 1) (max a 1 - 1) sh
        omega
      · have := fixT_len (rndF (dgV v q) (max a 1)) (ptV v q + rndC (dgV v q) (max a 1)) g (max a 1 - (ptV v q + rndC (dgV v q) (max a 1))) sh
        omega
    · unfold fixX
      have hr := rndC_b (dgV v q) (ptV v q + a)
      generalize hP : (if v = 0 ∨ ptV v q + a < 0 ∨ (ptV v q + a = 0 ∧ dgV v q 0 < 5) then 1 else ptV v q + rndC (dgV v q) (ptV v q + a)) = P
      have hPb : P ≤ 401 := by rw [← hP]; split <;> omega
      have := fixT_len (rndF (dgV v q) (ptV v q + a)) P g a sh
      omega
set_option maxRecDepth 10000 in
theorem realT_len {s : Nat} (hs : s < 2) {u : Int} (h0 : 0 ≤ u) {a : Int} (a0 : 0 ≤ a) (a1 : a ≤ 9999) (le : Int) (g sh : Prop) [Decidable g] [Decidable sh] : (realT s u le a g sh).length ≤ a.toNat + 600 := by
  unfold realT
  split
  · show 3 ≤ _; omega
  · split
    · show 8 ≤ _; omega
    · rename_i q1 q2
      obtain ⟨g1, g2, g3, g4⟩ := biCQ hs h0 q1 q2
      exact decX_len g1 (by omega) g3 g4 a0 a1 le g sh
-- XO
set_option maxRecDepth 10000 in
def LN (l : Int32) : Prop := ∃ k : Nat, l = iI k ∧ k ≤ 1000000
set_option maxRecDepth 10000 in
theorem LN_BY {n : Nat} (hn : n ≤ 1000000) {len over : Int32} {c : Nat → Int32} {E : List Int32} (h : BY n len over c E) : LN len := ⟨_, h.1, by omega⟩
set_option maxRecDepth 10000 in
theorem spE_neg {k : Int} (h : k ≤ 0) (x : Int32) : spE k x = [] := by unfold spE; rw [show k.toNat = 0 by omega]; rfl
set_option maxRecDepth 10000 in
theorem layT_bare (H B : List Int32) : layT (-1) H B ((0 : Int32) ≠ 0) ((0 : Int32) ≠ 0) ((0 : Int32) ≠ 0) ((0 : Int32) &&& 1 ≠ 0) = H ++ B := by
  have f0 : ((0 : Int32) ≠ 0) = False := propF 0 rfl
  have f1 : ((0 : Int32) &&& 1 ≠ 0) = False := eq_false (by decide)
  unfold layT
  simp only [f0, f1]
  rw [spE_neg (by simp only [if_false]; omega)]
  unfold upE
  simp
set_option maxRecDepth 10000 in
theorem signE_bare (ng : Prop) [Decidable ng] : signE ng 0 = if ng then [iI 45] else [] := by
  unfold signE
  have a : ((0 : Int32) &&& 64 = 0) = True := eq_true (by decide)
  have b : ((0 : Int32) &&& 4 = 0) = True := eq_true (by decide)
  have c : ((0 : Int32) &&& 8 = 0) = True := eq_true (by decide)
  simp only [a, b, c, if_true]
set_option maxRecDepth 10000 in
theorem closE_bare (ng : Prop) [Decidable ng] : closE ng 0 = 0 := by
  unfold closE
  have a : ((0 : Int32) &&& 64 = 0) = True := eq_true (by decide)
  simp only [a, if_true]
  split <;> rfl
set_option maxRecDepth 10000 in
def shLe (k : Int) : Int := if k = 0 then 101 else if k = 1 then 102 else 103
set_option maxRecDepth 10000 in
theorem shLe_3 (k : Int) : shLe k = 101 ∨ shLe k = 102 ∨ shLe k = 103 := by unfold shLe; split; simp; split <;> simp
set_option maxRecDepth 10000 in
theorem realT_F {s : Nat} {u le a : Int} : realT s u le a ((0 : Int32) &&& 32 ≠ 0) ((0 : Int32) &&& 2 ≠ 0) = realT s u le a ((0 : Int32) ≠ 0) ((0 : Int32) ≠ 0) := by
  have a1 : ((0 : Int32) &&& 32 ≠ 0) = ((0 : Int32) ≠ 0) := by rw [show (0 : Int32) &&& 32 = 0 from by decide]
  have a2 : ((0 : Int32) &&& 2 ≠ 0) = ((0 : Int32) ≠ 0) := by rw [show (0 : Int32) &&& 2 = 0 from by decide]
  simp only [a1, a2]
set_option maxRecDepth 10000 in
theorem ntshow {k a u : Int} (k0 : 0 ≤ k) (k2 : k ≤ 2) (a0 : 0 ≤ a) (a1 : a ≤ 1200) (h0 : 0 ≤ u) (h1 : u < 18446744073709551616) {rl0 ro0 : Int32} {rc0 : Nat → Int32} {R : List Int32} (hR : BY 32768 rl0 ro0 rc0 R) {hl0 bl0 : Int32} (hh : LN hl0) (hb : LN bl0) (up fl na ng cl inf le pr q0 ns sz pt bo wd zr ho : Int32) (nl ch dc hc bc : Nat → Int32) (c0 : Int64) (si : Nat) :
    ∃ rl ro rc hl bl y1 y2 y3 y4 y5 y6 y7 y8 y9 y10 y11 y12 y13 y14 y15 y16 y17 y18 y19 y20 y21 y22 y23, f_Nt_show (iI k) (iI a) (iL u) 4 10600 32768 rl0 up fl hl0 bl0 na ng cl inf le pr c0 q0 ns nl ch sz pt dc bo wd hc ro0 zr bc ho si rc0 = some (rl, rl, y1, y2, hl, bl, y3, y4, y5, y6, y7, y8, y9, y10, y11, y12, y13, y14, y15, y16, y17, y18, y19, ro, y20, y21, y22, y23, rc) ∧ BY 32768 rl ro rc (sgE 0 u ++ realT 0 u (shLe k) a ((0 : Int32) ≠ 0) ((0 : Int32) ≠ 0)) ∧ LN hl ∧ LN bl := by
  obtain ⟨kh, ehl, hkh⟩ := hh
  obtain ⟨kb, ebl, hkb⟩ := hb
  have hrl : ∃ j : Nat, rl0 = iI j ∧ j ≤ 1000000 := LN_BY (by omega) hR
  obtain ⟨kr, erl, hkr⟩ := hrl
  have h13 : (gl_len.getD 12 0 : Nat) = 3 := by decide
  unfold f_Nt_show
  rw [if_neg (show ¬ iI k < 0 from by simp (disch := omega) only [iI_lit, iL_lit, iI_add, iI_sub, iI_mul, iI_neg, iL_add, iL_sub, iL_mul, iL_neg, iI_lt, iI_le, iI_eq, iL_lt, iL_le, iL_eqS, iI_c, iI_ok, iI_l, iL_i, iI_low, l_ushrI, l_shlI, l_shrI, i_shlI, i_shrI, i_ushrI, iI_div, iL_div, Int.toNat_natCast, Int.reduceToNat, iI_ofNat]; omega), slen_spec (by omega), Option.bind_some, h13, if_neg (show ¬ iI ((3 : Nat) : Int) ≤ iI k from by simp (disch := omega) only [iI_lit, iL_lit, iI_add, iI_sub, iI_mul, iI_neg, iL_add, iL_sub, iL_mul, iL_neg, iI_lt, iI_le, iI_eq, iL_lt, iL_le, iL_eqS, iI_c, iI_ok, iI_l, iL_i, iI_low, l_ushrI, l_shlI, l_shrI, i_shlI, i_shrI, i_ushrI, iI_div, iL_div, Int.toNat_natCast, Int.reduceToNat, iI_ofNat]; omega), if_neg (show ¬ iI a < 0 from by simp (disch := omega) only [iI_lit, iL_lit, iI_add, iI_sub, iI_mul, iI_neg, iL_add, iL_sub, iL_mul, iL_neg, iI_lt, iI_le, iI_eq, iL_lt, iL_le, iL_eqS, iI_c, iI_ok, iI_l, iL_i, iI_low, l_ushrI, l_shlI, l_shrI, i_shlI, i_shrI, i_ushrI, iI_div, iL_div, Int.toNat_natCast, Int.reduceToNat, iI_ofNat]; omega), if_pos (show iI a ≤ 1200 from by simp (disch := omega) only [iI_lit, iL_lit, iI_add, iI_sub, iI_mul, iI_neg, iL_add, iL_sub, iL_mul, iL_neg, iI_lt, iI_le, iI_eq, iL_lt, iL_le, iL_eqS, iI_c, iI_ok, iI_l, iL_i, iI_low, l_ushrI, l_shlI, l_shrI, i_shlI, i_shrI, i_ushrI, iI_div, iL_div, Int.toNat_natCast, Int.reduceToNat, iI_ofNat]; omega), keep0 erl hkr, Option.bind_some]
  obtain ⟨j, rfl⟩ : ∃ j : Nat, k = (j : Int) := ⟨k.toNat, by omega⟩
  have hch : f_JStr_charAt 12 (iI (j : Int)) = some (iI (shLe (j : Int))) := by
    apply charAt_spec (by omega)
    have : j = 0 ∨ j = 1 ∨ j = 2 := by omega
    rcases this with rfl | rfl | rfl <;> decide
  rw [hch, Option.bind_some]
  have h3 := shLe_3 (j : Int)
  generalize shLe (j : Int) = L at *
  unfold f_Pr_writeBare
  rw [start_spec (by omega) (by omega) ehl hkh ebl hkb, Option.bind_some]
  dsimp only
  have hup : upV L = 0 := by unfold upV; rw [if_neg (by omega)]
  have hle : leV L = L := by unfold leV; rw [if_neg (by omega)]
  have hz16 : (if (0 : Int32) &&& 16 = 0 then (0 : Int32) else 1) = 0 := by decide
  rw [hup, hle, hz16]
  obtain ⟨hl', ho', bl', bo', hc', bc', x1, x2, x3, x4, x5, x6, e1, b1, b2⟩ := ffloat_spec (nh := 4) (nb := 10600) (by omega) (by omega) (s := 0) (by omega) (ki := 6) (by decide) h0 h1 (pr := a) (a := a) (le := L) (by omega) (by omega) (by rw [if_neg (by omega)]) h3 0 (BY_nil 4 hc) (BY_nil 10600 bc) na ng inf q0 c0 ns sz pt 0 nl ch dc si
  rw [e1, Option.bind_some]
  dsimp only
  have hcl : (if biN 0 u = 1 then (0 : Int32) else closE (biS 0 u ≠ 0) 0) = 0 := by rw [closE_bare]; split <;> rfl
  have hzr : (if biN 0 u = 1 ∨ biI 0 u = 1 then (0 : Int32) else 0) = 0 := by split <;> rfl
  have hsg : ([] : List Int32) ++ (if biN 0 u = 1 then [] else signE (biS 0 u ≠ 0) 0) = sgE 0 u := by
    rw [List.nil_append, signE_bare]
    unfold sgE
    by_cases w : biN 0 u = 1
    · rw [if_pos w, biS_N w, if_pos rfl]
    · rw [if_neg w]
      by_cases v : biS 0 u = 0
      · rw [if_pos v, if_neg (fun x => x v)]
      · rw [if_neg v, if_pos v]
  rw [hcl, hzr]
  rw [hsg] at b1
  rw [realT_F] at b2
  have hlb := realT_len (s := 0) (by omega) h0 a0 (by omega) L ((0 : Int32) ≠ 0) ((0 : Int32) ≠ 0)
  have hls : (sgE 0 u).length ≤ 1 := by unfold sgE; split <;> simp
  obtain ⟨l3, o3, c3, e3, b3⟩ := lay_spec (n := 32768) (w := -1) (by omega) (by omega) (by omega) (by omega) (by omega) b1 (by omega) b2 (by omega) 0 0 (iI 0) 0 (BY_nil 32768 rc0)
  have e3' : f_Pr_layOut 4 32768 10600 (-1 : Int32) hl' bl' 0 0 (iI 0) hc' (iI 0) (iI 0) 0 bc' rc0 = some (l3, o3, c3) := e3
  rw [e3', Option.bind_some]
  rw [List.nil_append, show iI 0 = (0 : Int32) from rfl, layT_bare] at b3
  exact ⟨l3, o3, c3, hl', bl', _, _, _, _, _, _, _, _, _, _, _, _, _, _, _, _, _, _, _, _, _, _, _, rfl, b3, LN_BY (by omega) b1, LN_BY (by omega) b2⟩
-- XP
set_option maxRecDepth 10000 in
theorem mshow_ok {k a u : Int} (k0 : 0 ≤ k) (k2 : k ≤ 2) (a0 : 0 ≤ a) (a1 : a ≤ 1200) (h0 : 0 ≤ u) (h1 : u < 18446744073709551616) {c : Nat → Int32} {bl : Nat} (hb0 : 0 < bl) (hbl : bl ≤ 400000) (bi un le us en ep crn crp bo ng hd ln co no : Int32) (ed crd sp bc rc : Nat → Int32) (lc : Nat → Int64) :
    OUT π23 (f_Md_show (iI k) (iI a) (iL u) bi un le us en ed lc ep crn crp crd bo sp ng hd ln bc co no rc c bl) bl 12000 (fun r => SH r (sgE 0 u ++ realT 0 u (shLe k) a ((0 : Int32) ≠ 0) ((0 : Int32) ≠ 0)) (iI 0)) := by
  have hl := realT_len (s := 0) (by omega) h0 a0 (by omega) (shLe k) ((0 : Int32) ≠ 0) ((0 : Int32) ≠ 0)
  unfold f_Md_show
  apply OUT_mo
  rw [if_neg (show ¬ iI k < 0 from by simp (disch := omega) only [iI_lit, iL_lit, iI_add, iI_sub, iI_mul, iI_neg, iL_add, iL_sub, iL_mul, iL_neg, iI_lt, iI_le, iI_eq, iL_lt, iL_le, iL_eqS, iI_c, iI_ok, iI_l, iL_i, iI_low, l_ushrI, l_shlI, l_shrI, i_shlI, i_shrI, i_ushrI, iI_div, iL_div, Int.toNat_natCast, Int.reduceToNat, iI_ofNat]; omega), if_neg (show ¬ (2 : Int32) < iI k from by simp (disch := omega) only [iI_lit, iL_lit, iI_add, iI_sub, iI_mul, iI_neg, iL_add, iL_sub, iL_mul, iL_neg, iI_lt, iI_le, iI_eq, iL_lt, iL_le, iL_eqS, iI_c, iI_ok, iI_l, iL_i, iI_low, l_ushrI, l_shlI, l_shrI, i_shlI, i_shrI, i_ushrI, iI_div, iL_div, Int.toNat_natCast, Int.reduceToNat, iI_ofNat]; omega), if_neg (show ¬ iI a < 0 from by simp (disch := omega) only [iI_lit, iL_lit, iI_add, iI_sub, iI_mul, iI_neg, iL_add, iL_sub, iL_mul, iL_neg, iI_lt, iI_le, iI_eq, iL_lt, iL_le, iL_eqS, iI_c, iI_ok, iI_l, iL_i, iI_low, l_ushrI, l_shlI, l_shrI, i_shlI, i_shrI, i_ushrI, iI_div, iL_div, Int.toNat_natCast, Int.reduceToNat, iI_ofNat]; omega), if_neg (show ¬ (1200 : Int32) < iI a from by simp (disch := omega) only [iI_lit, iL_lit, iI_add, iI_sub, iI_mul, iI_neg, iL_add, iL_sub, iL_mul, iL_neg, iI_lt, iI_le, iI_eq, iL_lt, iL_le, iL_eqS, iI_c, iI_ok, iI_l, iL_i, iI_low, l_ushrI, l_shlI, l_shrI, i_shlI, i_shrI, i_ushrI, iI_div, iL_div, Int.toNat_natCast, Int.reduceToNat, iI_ofNat]; omega)]
  unfold f_Md_show_26
  have hg : f_Md_good (1 : Int32) (1 : Int32) co = some ((1 : Int32), (0 : Int32)) := by unfold f_Md_good; rfl
  rw [hg, Option.bind_some]
  dsimp only
  rw [if_neg (show ¬ (1 : Int32) = 0 from by decide), show f_Md_kind (1 : Int32) bi le = some (iI (szD 0), iI (szL 0)) from kind_spec (s := 0) (by omega) bi le, Option.bind_some]
  dsimp only
  have key := show72 h0 h1 (le := shLe k) (a := a) (shLe_3 k) a0 (by omega) (by omega) (c := c) hb0 hbl un us en ep crn crp 0 ng ln 0 no ed crd sp bc rc lc
  unfold shLe at key ⊢
  by_cases q0 : k = 0
  · rw [if_pos q0] at key ⊢
    rw [if_pos (show iI k = 0 from by rw [q0]; rfl)]
    exact key
  · rw [if_neg q0] at key ⊢
    rw [if_neg (show ¬ iI k = 0 from by simp (disch := omega) only [iI_lit, iL_lit, iI_add, iI_sub, iI_mul, iI_neg, iL_add, iL_sub, iL_mul, iL_neg, iI_lt, iI_le, iI_eq, iL_lt, iL_le, iL_eqS, iI_c, iI_ok, iI_l, iL_i, iI_low, l_ushrI, l_shlI, l_shrI, i_shlI, i_shrI, i_ushrI, iI_div, iL_div, Int.toNat_natCast, Int.reduceToNat, iI_ofNat]; omega)]
    by_cases q1 : k = 1
    · rw [if_pos q1] at key ⊢
      rw [if_pos (show iI k = 1 from by rw [q1]; rfl)]
      exact key
    · rw [if_neg q1] at key ⊢
      rw [if_neg (show ¬ iI k = 1 from by simp (disch := omega) only [iI_lit, iL_lit, iI_add, iI_sub, iI_mul, iI_neg, iL_add, iL_sub, iL_mul, iL_neg, iI_lt, iI_le, iI_eq, iL_lt, iL_le, iL_eqS, iI_c, iI_ok, iI_l, iL_i, iI_low, l_ushrI, l_shlI, l_shrI, i_shlI, i_shrI, i_ushrI, iI_div, iL_div, Int.toNat_natCast, Int.reduceToNat, iI_ofNat]; omega)]
      exact key
set_option maxRecDepth 10000 in
theorem mshow_no {k a : Int} (hk : -2147483648 ≤ k) (hk' : k < 2147483648) (ha : -2147483648 ≤ a) (ha' : a < 2147483648) (hno : ¬ (0 ≤ k ∧ k ≤ 2 ∧ 0 ≤ a ∧ a ≤ 1200)) (u : Int64) (c : Nat → Int32) (bl : Nat) (bi un le us en ep crn crp bo ng hd ln co no : Int32) (ed crd sp bc rc : Nat → Int32) (lc : Nat → Int64) :
    f_Md_show (iI k) (iI a) u bi un le us en ed lc ep crn crp crd bo sp ng hd ln bc co no rc c bl = some (0, bi, un, le, us, en, ed, lc, ep, crn, crp, crd, bo, sp, ng, hd, ln, bc, 1, no, rc, c, bl) := by
  have h25 : f_Md_show_25 (iI k) (iI a) u bi un le us en ed lc ep crn crp crd bo sp ng hd ln bc co no rc c bl = some (0, bi, un, le, us, en, ed, lc, ep, crn, crp, crd, bo, sp, ng, hd, ln, bc, 1, no, rc, c, bl) := by
    unfold f_Md_show_25 f_Md_show_26
    have hg : f_Md_good (0 : Int32) (1 : Int32) co = some ((0 : Int32), (1 : Int32)) := by unfold f_Md_good; rfl
    rw [hg, Option.bind_some]
    dsimp only
    rw [if_pos rfl]
  unfold f_Md_show
  refine mo_some ?_ (Nat.le_refl _)
  rw [h25]
  by_cases q1 : k < 0
  · rw [if_pos (show iI k < 0 from by simp (disch := omega) only [iI_lit, iL_lit, iI_add, iI_sub, iI_mul, iI_neg, iL_add, iL_sub, iL_mul, iL_neg, iI_lt, iI_le, iI_eq, iL_lt, iL_le, iL_eqS, iI_c, iI_ok, iI_l, iL_i, iI_low, l_ushrI, l_shlI, l_shrI, i_shlI, i_shrI, i_ushrI, iI_div, iL_div, Int.toNat_natCast, Int.reduceToNat, iI_ofNat]; omega)]
  · rw [if_neg (show ¬ iI k < 0 from by simp (disch := omega) only [iI_lit, iL_lit, iI_add, iI_sub, iI_mul, iI_neg, iL_add, iL_sub, iL_mul, iL_neg, iI_lt, iI_le, iI_eq, iL_lt, iL_le, iL_eqS, iI_c, iI_ok, iI_l, iL_i, iI_low, l_ushrI, l_shlI, l_shrI, i_shlI, i_shrI, i_ushrI, iI_div, iL_div, Int.toNat_natCast, Int.reduceToNat, iI_ofNat]; omega)]
    by_cases q2 : 2 < k
    · rw [if_pos (show (2 : Int32) < iI k from by simp (disch := omega) only [iI_lit, iL_lit, iI_add, iI_sub, iI_mul, iI_neg, iL_add, iL_sub, iL_mul, iL_neg, iI_lt, iI_le, iI_eq, iL_lt, iL_le, iL_eqS, iI_c, iI_ok, iI_l, iL_i, iI_low, l_ushrI, l_shlI, l_shrI, i_shlI, i_shrI, i_ushrI, iI_div, iL_div, Int.toNat_natCast, Int.reduceToNat, iI_ofNat]; omega)]
    · rw [if_neg (show ¬ (2 : Int32) < iI k from by simp (disch := omega) only [iI_lit, iL_lit, iI_add, iI_sub, iI_mul, iI_neg, iL_add, iL_sub, iL_mul, iL_neg, iI_lt, iI_le, iI_eq, iL_lt, iL_le, iL_eqS, iI_c, iI_ok, iI_l, iL_i, iI_low, l_ushrI, l_shlI, l_shrI, i_shlI, i_shrI, i_ushrI, iI_div, iL_div, Int.toNat_natCast, Int.reduceToNat, iI_ofNat]; omega)]
      by_cases q3 : a < 0
      · rw [if_pos (show iI a < 0 from by simp (disch := omega) only [iI_lit, iL_lit, iI_add, iI_sub, iI_mul, iI_neg, iL_add, iL_sub, iL_mul, iL_neg, iI_lt, iI_le, iI_eq, iL_lt, iL_le, iL_eqS, iI_c, iI_ok, iI_l, iL_i, iI_low, l_ushrI, l_shlI, l_shrI, i_shlI, i_shrI, i_ushrI, iI_div, iL_div, Int.toNat_natCast, Int.reduceToNat, iI_ofNat]; omega)]
      · rw [if_neg (show ¬ iI a < 0 from by simp (disch := omega) only [iI_lit, iL_lit, iI_add, iI_sub, iI_mul, iI_neg, iL_add, iL_sub, iL_mul, iL_neg, iI_lt, iI_le, iI_eq, iL_lt, iL_le, iL_eqS, iI_c, iI_ok, iI_l, iL_i, iI_low, l_ushrI, l_shlI, l_shrI, i_shlI, i_shrI, i_ushrI, iI_div, iL_div, Int.toNat_natCast, Int.reduceToNat, iI_ofNat]; omega), if_pos (show (1200 : Int32) < iI a from by simp (disch := omega) only [iI_lit, iL_lit, iI_add, iI_sub, iI_mul, iI_neg, iL_add, iL_sub, iL_mul, iL_neg, iI_lt, iI_le, iI_eq, iL_lt, iL_le, iL_eqS, iI_c, iI_ok, iI_l, iL_i, iI_low, l_ushrI, l_shlI, l_shrI, i_shlI, i_shrI, i_ushrI, iI_div, iL_div, Int.toNat_natCast, Int.reduceToNat, iI_ofNat]; omega)]
set_option maxRecDepth 10000 in
theorem ntshow_no {k a : Int} (hk : -2147483648 ≤ k) (hk' : k < 2147483648) (ha : -2147483648 ≤ a) (ha' : a < 2147483648) (hno : ¬ (0 ≤ k ∧ k ≤ 2 ∧ 0 ≤ a ∧ a ≤ 1200)) (u : Int64) (rl ro hl bl up fl na ng cl inf le pr q0 ns sz pt bo wd zr ho : Int32) (nl ch dc hc bc rc : Nat → Int32) (c0 : Int64) (si : Nat) :
    t_Nt_show (iI k) (iI a) u 4 10600 32768 rl up fl hl bl na ng cl inf le pr c0 q0 ns nl ch sz pt dc bo wd hc ro zr bc ho si rc = some (1, rl, up, fl, hl, bl, na, ng, cl, inf, le, pr, c0, q0, ns, nl, ch, sz, pt, dc, bo, wd, hc, ro, zr, bc, ho, si, rc) := by
  have h13 : (gl_len.getD 12 0 : Nat) = 3 := by decide
  unfold t_Nt_show
  rw [slen_spec (by omega), Option.bind_some, h13]
  by_cases q1 : k < 0
  · rw [if_pos (show iI k < 0 from by simp (disch := omega) only [iI_lit, iL_lit, iI_add, iI_sub, iI_mul, iI_neg, iL_add, iL_sub, iL_mul, iL_neg, iI_lt, iI_le, iI_eq, iL_lt, iL_le, iL_eqS, iI_c, iI_ok, iI_l, iL_i, iI_low, l_ushrI, l_shlI, l_shrI, i_shlI, i_shrI, i_ushrI, iI_div, iL_div, Int.toNat_natCast, Int.reduceToNat, iI_ofNat]; omega)]
  · rw [if_neg (show ¬ iI k < 0 from by simp (disch := omega) only [iI_lit, iL_lit, iI_add, iI_sub, iI_mul, iI_neg, iL_add, iL_sub, iL_mul, iL_neg, iI_lt, iI_le, iI_eq, iL_lt, iL_le, iL_eqS, iI_c, iI_ok, iI_l, iL_i, iI_low, l_ushrI, l_shlI, l_shrI, i_shlI, i_shrI, i_ushrI, iI_div, iL_div, Int.toNat_natCast, Int.reduceToNat, iI_ofNat]; omega)]
    by_cases q2 : 2 < k
    · rw [if_pos (show iI ((3 : Nat) : Int) ≤ iI k from by simp (disch := omega) only [iI_lit, iL_lit, iI_add, iI_sub, iI_mul, iI_neg, iL_add, iL_sub, iL_mul, iL_neg, iI_lt, iI_le, iI_eq, iL_lt, iL_le, iL_eqS, iI_c, iI_ok, iI_l, iL_i, iI_low, l_ushrI, l_shlI, l_shrI, i_shlI, i_shrI, i_ushrI, iI_div, iL_div, Int.toNat_natCast, Int.reduceToNat, iI_ofNat]; omega)]
    · rw [if_neg (show ¬ iI ((3 : Nat) : Int) ≤ iI k from by simp (disch := omega) only [iI_lit, iL_lit, iI_add, iI_sub, iI_mul, iI_neg, iL_add, iL_sub, iL_mul, iL_neg, iI_lt, iI_le, iI_eq, iL_lt, iL_le, iL_eqS, iI_c, iI_ok, iI_l, iL_i, iI_low, l_ushrI, l_shlI, l_shrI, i_shlI, i_shrI, i_ushrI, iI_div, iL_div, Int.toNat_natCast, Int.reduceToNat, iI_ofNat]; omega)]
      by_cases q3 : a < 0
      · rw [if_pos (show iI a < 0 from by simp (disch := omega) only [iI_lit, iL_lit, iI_add, iI_sub, iI_mul, iI_neg, iL_add, iL_sub, iL_mul, iL_neg, iI_lt, iI_le, iI_eq, iL_lt, iL_le, iL_eqS, iI_c, iI_ok, iI_l, iL_i, iI_low, l_ushrI, l_shlI, l_shrI, i_shlI, i_shrI, i_ushrI, iI_div, iL_div, Int.toNat_natCast, Int.reduceToNat, iI_ofNat]; omega)]
      · rw [if_neg (show ¬ iI a < 0 from by simp (disch := omega) only [iI_lit, iL_lit, iI_add, iI_sub, iI_mul, iI_neg, iL_add, iL_sub, iL_mul, iL_neg, iI_lt, iI_le, iI_eq, iL_lt, iL_le, iL_eqS, iI_c, iI_ok, iI_l, iL_i, iI_low, l_ushrI, l_shlI, l_shrI, i_shlI, i_shrI, i_ushrI, iI_div, iL_div, Int.toNat_natCast, Int.reduceToNat, iI_ofNat]; omega), if_neg (show ¬ iI a ≤ 1200 from by simp (disch := omega) only [iI_lit, iL_lit, iI_add, iI_sub, iI_mul, iI_neg, iL_add, iL_sub, iL_mul, iL_neg, iI_lt, iI_le, iI_eq, iL_lt, iL_le, iL_eqS, iI_c, iI_ok, iI_l, iL_i, iI_low, l_ushrI, l_shlI, l_shrI, i_shlI, i_shrI, i_ushrI, iI_div, iL_div, Int.toNat_natCast, Int.reduceToNat, iI_ofNat]; omega)]
-- XQ
set_option maxRecDepth 10000 in
def hxD (x : Int) : Int32 := iI (if x < 10 then 48 + x else 87 + x)
set_option maxRecDepth 10000 in
def hexL (m : Int) : Nat → List Int32
  | 0 => []
  | d + 1 => hxD (m / 16 ^ d % 16) :: hexL m d
set_option maxRecDepth 10000 in
def pwrE (p : Int) : List Int32 := [iI 112] ++ ((if p < 0 then [iI 45] else []) ++ numE (if p < 0 then -p else p) 1)
set_option maxRecDepth 10000 in
def fracT (m : Int) (d : Nat) (p : Int) : List Int32 := [hxD (m / 16 ^ d % 16)] ++ ([iI 46] ++ (hexL m d ++ pwrE p))
set_option maxRecDepth 10000 in
theorem hexL_len (m : Int) : ∀ d, (hexL m d).length = d
  | 0 => rfl
  | d + 1 => by show (hexL m d).length + 1 = d + 1; rw [hexL_len m d]
set_option maxRecDepth 10000 in
theorem p16 (d : Nat) : (2 : Int) ^ (4 * d) = 16 ^ d := by rw [Int.pow_mul]; rfl
set_option maxRecDepth 10000 in
theorem p16_pos (d : Nat) : (0 : Int) < 16 ^ d := by rw [← p16]; exact p2_pos _
set_option maxRecDepth 10000 in
theorem hxdig_spec {n : Nat} (hn : n < 1000000) {x : Int} (h0 : 0 ≤ x) {len over : Int32} {c : Nat → Int32} {E : List Int32} (h : BY n len over c E) :
    ∃ len' over' c', f_Pr_addHexDigit (iL x) n len over c = some (len', over', c') ∧ BY n len' over' c' (E ++ [hxD (x % 16)]) := by
  unfold f_Pr_addHexDigit
  have hm : (iL x).toInt32 &&& (15 : Int32) = iI (x % 16) := by
    rw [iL_i]
    exact iI_mask (a := x) (k := 4) (by omega)
  rw [hm]
  obtain ⟨y, hy⟩ : ∃ y : Nat, x % 16 = (y : Int) := ⟨(x % 16).toNat, by omega⟩
  have hy16 : y < 16 := by omega
  have hch : f_JStr_charAt 19 (iI (y : Int)) = some (hxD y) := by
    apply charAt_spec (by omega)
    have : ∀ y : Fin 16, (gl_byt.getD 19 [])[y.val]? = some (hxD (y.val : Int)) := by decide
    exact this ⟨y, hy16⟩
  rw [hy, hch, Option.bind_some]
  obtain ⟨l1, o1, c1, e1, b1⟩ := add_spec (by omega) h (hxD y)
  rw [e1, Option.bind_some]
  refine ⟨l1, o1, c1, rfl, ?_⟩
  have : sb (hxD (y : Int)) = hxD y := by unfold hxD; split <;> exact sb_small (by omega) (by omega)
  rw [this] at b1
  exact b1
set_option maxRecDepth 10000 in
theorem frac62 {n : Nat} (hn : n < 1000000) {p : Int} (p0 : -9000 ≤ p) (p1 : p ≤ 9000) {len over : Int32} {c : Nat → Int32} {E : List Int32} (h : BY n len over c E) :
    ∃ len' over' c', (if 0 ≤ iI p then (f_Pr_addFraction_62 (iI p) 21 n len over c) else (f_Pr_addFraction_62 (iI p) 20 n len over c)) = some (len', over', c') ∧ BY n len' over' c' (E ++ pwrE p) := by
  unfold f_Pr_addFraction_62 pwrE
  rw [abs_spec (by omega) (by omega)]
  by_cases q : 0 ≤ p
  · rw [if_pos (show (0 : Int32) ≤ iI p from by simp (disch := omega) only [iI_lit, iL_lit, iI_add, iI_sub, iI_mul, iI_neg, iL_add, iL_sub, iL_mul, iL_neg, iI_lt, iI_le, iI_eq, iL_lt, iL_le, iL_eqS, iI_c, iI_ok, iI_l, iL_i, iI_low, l_ushrI, l_shlI, l_shrI, i_shlI, i_shrI, i_ushrI, iI_div, iL_div, Int.toNat_natCast, Int.reduceToNat, iI_ofNat]; omega), if_neg (by omega), if_neg (by omega)]
    obtain ⟨l1, o1, c1, e1, b1⟩ := astr_spec (o := 21) (by omega) (by decide) h
    rw [e1, Option.bind_some, Option.bind_some]
    obtain ⟨l2, o2, c2, e2, b2⟩ := an_spec (v := p) (w := 1) (by omega) q (by omega) (by omega) (by omega) b1
    rw [show (((p.natAbs : Nat)) : Int) = p by omega, show (1 : Int32) = iI 1 from rfl, e2, Option.bind_some]
    refine ⟨l2, o2, c2, rfl, ?_⟩
    rw [show gl_byt.getD 21 [] = [iI 112] from by decide] at b2
    rw [List.nil_append, ← List.append_assoc]
    exact b2
  · rw [if_neg (show ¬ (0 : Int32) ≤ iI p from by simp (disch := omega) only [iI_lit, iL_lit, iI_add, iI_sub, iI_mul, iI_neg, iL_add, iL_sub, iL_mul, iL_neg, iI_lt, iI_le, iI_eq, iL_lt, iL_le, iL_eqS, iI_c, iI_ok, iI_l, iL_i, iI_low, l_ushrI, l_shlI, l_shrI, i_shlI, i_shrI, i_ushrI, iI_div, iL_div, Int.toNat_natCast, Int.reduceToNat, iI_ofNat]; omega), if_pos (by omega), if_pos (by omega)]
    obtain ⟨l1, o1, c1, e1, b1⟩ := astr_spec (o := 20) (by omega) (by decide) h
    rw [e1, Option.bind_some, Option.bind_some]
    obtain ⟨l2, o2, c2, e2, b2⟩ := an_spec (v := -p) (w := 1) (by omega) (by omega) (by omega) (by omega) (by omega) b1
    rw [show (((p.natAbs : Nat)) : Int) = -p by omega, show (1 : Int32) = iI 1 from rfl, e2, Option.bind_some]
    refine ⟨l2, o2, c2, rfl, ?_⟩
    rw [show gl_byt.getD 20 [] = [iI 112, iI 45] from by decide] at b2
    rw [← List.append_assoc, ← List.append_assoc]
    rw [show E ++ [iI 112] ++ [iI 45] = E ++ [iI 112, iI 45] by simp]
    exact b2
set_option maxRecDepth 10000 in
theorem frac25 {n : Nat} (hn : n < 1000000) {m p : Int} (m0 : 0 ≤ m) (m1 : m < 9223372036854775808) (p0 : -9000 ≤ p) (p1 : p ≤ 9000) :
    ∀ (d k : Nat) (len over : Int32) (c : Nat → Int32) (E : List Int32), d ≤ 15 → d < k → BY n len over c E → ∃ len' over' c', f_Pr_addFraction_25 k (iL m) (iI p) (iI (4 * ((d : Int) - 1))) n len over c = some (len', over', c') ∧ BY n len' over' c' (E ++ (hexL m d ++ pwrE p))
  | 0, k + 1, len, over, c, E, hd, hk, h => by
    rw [f_Pr_addFraction_25, if_pos (show iI (4 * (((0 : Nat) : Int) - 1)) < 0 from by decide)]
    exact frac62 hn p0 p1 h
  | d + 1, k + 1, len, over, c, E, hd, hk, h => by
    rw [f_Pr_addFraction_25, if_neg (show ¬ iI (4 * (((d + 1 : Nat) : Int) - 1)) < 0 from by simp (disch := omega) only [iI_lit, iL_lit, iI_add, iI_sub, iI_mul, iI_neg, iL_add, iL_sub, iL_mul, iL_neg, iI_lt, iI_le, iI_eq, iL_lt, iL_le, iL_eqS, iI_c, iI_ok, iI_l, iL_i, iI_low, l_ushrI, l_shlI, l_shrI, i_shlI, i_shrI, i_ushrI, iI_div, iL_div, Int.toNat_natCast, Int.reduceToNat, iI_ofNat]; omega), iI_l (by omega) (by omega), show (63 : Int64) = iL 63 from rfl, l_ushrI (by omega) (by omega) m0 (by omega), show (4 * (((d + 1 : Nat) : Int) - 1)).toNat = 4 * d by omega, p16]
    obtain ⟨l1, o1, c1, e1, b1⟩ := hxdig_spec hn (x := m / 16 ^ d) (Int.ediv_nonneg m0 (Int.le_of_lt (p16_pos d))) h
    rw [e1, Option.bind_some, show (-4 : Int32) = iI (-4) from rfl, iI_add, show 4 * (((d + 1 : Nat) : Int) - 1) + -4 = 4 * ((d : Int) - 1) by omega]
    obtain ⟨l2, o2, c2, e2, b2⟩ := frac25 hn m0 m1 p0 p1 d k l1 o1 c1 _ (by omega) (by omega) b1
    refine ⟨l2, o2, c2, e2, ?_⟩
    show BY n l2 o2 c2 (E ++ (([hxD (m / 16 ^ d % 16)] ++ hexL m d) ++ pwrE p))
    rw [List.append_assoc [_], ← List.append_assoc E]
    exact b2
set_option maxRecDepth 10000 in
theorem frac_spec {n : Nat} (hn : n < 1000000) {m p : Int} {d : Nat} (m0 : 0 ≤ m) (m1 : m < 9223372036854775808) (p0 : -9000 ≤ p) (p1 : p ≤ 9000) (hd0 : 1 ≤ d) (hd : d ≤ 15) {len over : Int32} {c : Nat → Int32} {E : List Int32} (h : BY n len over c E) :
    ∃ len' over' c', f_Pr_addFraction (iL m) (iI d) (iI p) n len over c = some (len', over', c') ∧ BY n len' over' c' (E ++ fracT m d p) := by
  unfold f_Pr_addFraction
  rw [show (4 : Int32) = iI 4 from rfl, show (1 : Int32) = iI 1 from rfl, iI_mul, iI_sub, iI_mul, iI_l (by omega) (by omega), show (63 : Int64) = iL 63 from rfl, l_ushrI (by omega) (by omega) m0 (by omega), show (4 * (d : Int)).toNat = 4 * d by omega, p16]
  obtain ⟨l1, o1, c1, e1, b1⟩ := hxdig_spec hn (x := m / 16 ^ d) (Int.ediv_nonneg m0 (Int.le_of_lt (p16_pos d))) h
  rw [e1, Option.bind_some]
  dsimp only
  obtain ⟨l2, o2, c2, e2, b2⟩ := add_spec (by omega) b1 (iI 46)
  rw [sb_small (by omega) (by omega)] at b2
  rw [show (46 : Int32) = iI 46 from rfl, e2, Option.bind_some]
  obtain ⟨l3, o3, c3, e3, b3⟩ := frac25 hn m0 m1 p0 p1 d gx_fu l2 o2 c2 _ hd (by have := fu_pos; omega) b2
  refine ⟨l3, o3, c3, e3, ?_⟩
  unfold fracT
  rw [← List.append_assoc E, ← List.append_assoc (E ++ _)]
  exact b3
-- XR
set_option maxRecDepth 10000 in
theorem pwr_spl {p : Int} (p0 : -9000 ≤ p) (p1 : p ≤ 9000) : pwrE p = [iI 112] ++ spL p := by
  unfold pwrE
  congr 1
  have h := num_spl (v := p.natAbs) (by omega) (by omega)
  rw [Int.natAbs_natCast] at h
  unfold spL
  by_cases q : p < 0
  · rw [if_pos q, if_pos q, show (-p) = ((p.natAbs : Nat) : Int) by omega, h]
  · rw [if_neg q, if_neg q]
    have e : numE p 1 = numE ((p.natAbs : Nat) : Int) 1 := by congr 1; omega
    rw [e, h]
set_option maxRecDepth 10000 in
theorem spL_sb (v : Int) : ∀ x ∈ spL v, sb x = x := by
  intro x hx
  unfold spL at hx
  rw [List.mem_append] at hx
  rcases hx with hx | hx
  · split at hx
    · simp at hx; rw [hx]; exact sb_small (by omega) (by omega)
    · simp at hx
  · rw [List.mem_map] at hx
    obtain ⟨i, _, rfl⟩ := hx
    exact sb_small (by omega) (by omega)
set_option maxRecDepth 10000 in
theorem mnum9 {S : List Int32} (hS : S.length ≤ 72) (hb : ∀ x ∈ S, sb x = x) {sp : Nat → Int32} (hsp : ∀ i x, S[i]? = some x → sp i = x) : ∀ (d i m : Nat) (bl : Int32) (bc : Nat → Int32) (E : List Int32), i + d = S.length → d < m → TP bl bc E → E.length + d < 12000 → ∃ bl' bc', f_Md_number_9 m (iI S.length) (iI i) sp bl bc = some (sp, bl', bc') ∧ TP bl' bc' (E ++ S.drop i)
  | 0, i, m + 1, bl, bc, E, hi, hm, h, hE => by
    rw [f_Md_number_9, if_pos (show iI (S.length : Int) ≤ iI (i : Int) from by simp (disch := omega) only [iI_lit, iL_lit, iI_add, iI_sub, iI_mul, iI_neg, iL_add, iL_sub, iL_mul, iL_neg, iI_lt, iI_le, iI_eq, iL_lt, iL_le, iL_eqS, iI_c, iI_ok, iI_l, iL_i, iI_low, l_ushrI, l_shlI, l_shrI, i_shlI, i_shrI, i_ushrI, iI_div, iL_div, Int.toNat_natCast, Int.reduceToNat, iI_ofNat]; omega), List.drop_of_length_le (by omega), List.append_nil]
    exact ⟨bl, bc, rfl, h⟩
  | d + 1, i, m + 1, bl, bc, E, hi, hm, h, hE => by
    have hil : i < S.length := by omega
    rw [f_Md_number_9, if_neg (show ¬ iI (S.length : Int) ≤ iI (i : Int) from by simp (disch := omega) only [iI_lit, iL_lit, iI_add, iI_sub, iI_mul, iI_neg, iL_add, iL_sub, iL_mul, iL_neg, iI_lt, iI_le, iI_eq, iL_lt, iL_le, iL_eqS, iI_c, iI_ok, iI_l, iL_i, iI_low, l_ushrI, l_shlI, l_shrI, i_shlI, i_shrI, i_ushrI, iI_div, iL_div, Int.toNat_natCast, Int.reduceToNat, iI_ofNat]; omega), if_pos (show gx_ok (iI (i : Int)) 72 = true from by simp (disch := omega) only [iI_lit, iL_lit, iI_add, iI_sub, iI_mul, iI_neg, iL_add, iL_sub, iL_mul, iL_neg, iI_lt, iI_le, iI_eq, iL_lt, iL_le, iL_eqS, iI_c, iI_ok, iI_l, iL_i, iI_low, l_ushrI, l_shlI, l_shrI, i_shlI, i_shrI, i_ushrI, iI_div, iL_div, Int.toNat_natCast, Int.reduceToNat, iI_ofNat]; omega), iI_c (by omega) (by omega), Int.toNat_natCast, hsp i S[i] (List.getElem?_eq_getElem hil)]
    obtain ⟨b1, c1, e1, t1⟩ := madd_spec h (by omega) S[i]
    rw [hb S[i] (List.getElem_mem hil)] at t1
    rw [e1, Option.bind_some, show iI (i : Int) + 1 = iI ((i + 1 : Nat) : Int) from by rw [show (1 : Int32) = iI 1 from rfl, iI_add]; rfl]
    obtain ⟨b2, c2, e2, t2⟩ := mnum9 hS hb hsp d (i + 1) m b1 c1 _ (by omega) (by omega) t1 (by simp; omega)
    refine ⟨b2, c2, e2, ?_⟩
    rw [← List.getElem_cons_drop hil, show S[i] :: S.drop (i + 1) = [S[i]] ++ S.drop (i + 1) from rfl, ← List.append_assoc]
    exact t2
set_option maxRecDepth 10000 in
theorem spL_len5 {p : Int} (p0 : -9000 ≤ p) (p1 : p ≤ 9000) : (spL p).length ≤ 5 := by
  have h := pwr_spl p0 p1
  have h2 : (pwrE p).length ≤ 6 := by
    unfold pwrE
    have := numE_len (if p < 0 then -p else p) 1
    have h3 : (if p < 0 then [iI 45] else []).length ≤ 1 := by split <;> simp
    simp only [List.length_append, List.length_cons, List.length_nil]
    omega
  rw [h] at h2
  simp at h2
  omega
set_option maxRecDepth 10000 in
theorem mnum_spec {p : Int} (p0 : -9000 ≤ p) (p1 : p ≤ 9000) (sp : Nat → Int32) {bl : Int32} {bc : Nat → Int32} {E : List Int32} (h : TP bl bc E) (hE : E.length + 10 < 12000) : ∃ sp' bl' bc', f_Md_number (iI p) sp bl bc = some (sp', bl', bc') ∧ TP bl' bc' (E ++ spL p) := by
  obtain ⟨c', e, g⟩ := spell_spec (v := p) (by omega) (by omega) sp
  have hl := spL_len5 p0 p1
  unfold f_Md_number
  rw [iI_l (by omega) (by omega), e, Option.bind_some]
  obtain ⟨b1, c1, e1, t1⟩ := mnum9 (S := spL p) (by omega) (spL_sb p) g (spL p).length 0 gx_fu bl bc E (by omega) (by have := fu_pos; omega) h (by omega)
  exact ⟨c', b1, c1, e1, t1⟩
set_option maxRecDepth 10000 in
theorem mhex_d {x : Int} (h0 : 0 ≤ x) (h1 : x < 16) : f_Md_hex (iI x) = some (hxD x) := by
  unfold f_Md_hex hxD
  by_cases q : x < 10
  · rw [if_neg (show ¬ (10 : Int32) ≤ iI x from by simp (disch := omega) only [iI_lit, iL_lit, iI_add, iI_sub, iI_mul, iI_neg, iL_add, iL_sub, iL_mul, iL_neg, iI_lt, iI_le, iI_eq, iL_lt, iL_le, iL_eqS, iI_c, iI_ok, iI_l, iL_i, iI_low, l_ushrI, l_shlI, l_shrI, i_shlI, i_shrI, i_ushrI, iI_div, iL_div, Int.toNat_natCast, Int.reduceToNat, iI_ofNat]; omega), if_pos q, show (48 : Int32) = iI 48 from rfl, iI_add]
  · rw [if_pos (show (10 : Int32) ≤ iI x from by simp (disch := omega) only [iI_lit, iL_lit, iI_add, iI_sub, iI_mul, iI_neg, iL_add, iL_sub, iL_mul, iL_neg, iI_lt, iI_le, iI_eq, iL_lt, iL_le, iL_eqS, iI_c, iI_ok, iI_l, iL_i, iI_low, l_ushrI, l_shlI, l_shrI, i_shlI, i_shrI, i_ushrI, iI_div, iL_div, Int.toNat_natCast, Int.reduceToNat, iI_ofNat]; omega), if_neg q, show (97 : Int32) = iI 97 from rfl, show (10 : Int32) = iI 10 from rfl, iI_add, iI_sub]
    congr 2; omega
set_option maxRecDepth 10000 in
theorem sb_hx {x : Int} (h0 : 0 ≤ x) (h1 : x < 16) : sb (hxD x) = hxD x := by unfold hxD; split <;> exact sb_small (by omega) (by omega)
set_option maxRecDepth 10000 in
theorem mhx141 {S f e p m : Int} {n : Nat} (f0 : 0 ≤ f) (f1 : f < 4503599627370496) (hn : n ≤ 13) (hm : ∀ j, j < n → m / 16 ^ j % 16 = f / 16 ^ (13 - n + j) % 16) (p0 : -9000 ≤ p) (p1 : p ≤ 9000) (hend : ∀ (sp : Nat → Int32) (bl : Int32) (bc : Nat → Int32), (if iL S = (0 : Int64) then (f_Md_hexadecimal2_210 (0 : Int32) bl sp bc) else (if iI e ≤ 0 then (f_Md_hexadecimal2_210 (-1022 : Int32) bl sp bc) else (f_Md_hexadecimal2_210 (iI e - (1023 : Int32)) bl sp bc))) = f_Md_hexadecimal2_210 (iI p) bl sp bc) :
    ∀ (d i k : Nat) (bl : Int32) (sp bc : Nat → Int32) (E : List Int32), i + d = n + 1 → 1 ≤ i → d < k → TP bl bc E → E.length + d + 20 < 12000 → ∃ bl' sp' bc', f_Md_hexadecimal2_141 k (iL S) (iL f) (iI e) (iI n) (iI i) bl sp bc = some (bl', sp', bc') ∧ TP bl' bc' (E ++ (hexL m d ++ pwrE p))
  | 0, i, k + 1, bl, sp, bc, E, hi, hi1, hk, h, hE => by
    rw [f_Md_hexadecimal2_141, if_pos (show iI (n : Int) < iI (i : Int) from by simp (disch := omega) only [iI_lit, iL_lit, iI_add, iI_sub, iI_mul, iI_neg, iL_add, iL_sub, iL_mul, iL_neg, iI_lt, iI_le, iI_eq, iL_lt, iL_le, iL_eqS, iI_c, iI_ok, iI_l, iL_i, iI_low, l_ushrI, l_shlI, l_shrI, i_shlI, i_shrI, i_ushrI, iI_div, iL_div, Int.toNat_natCast, Int.reduceToNat, iI_ofNat]; omega)]
    obtain ⟨b1, c1, e1, t1⟩ := madd_i h (by omega) (a := 112) (by omega) (by omega)
    rw [show (112 : Int32) = iI 112 from rfl, e1, Option.bind_some, hend]
    unfold f_Md_hexadecimal2_210
    obtain ⟨sp', b2, c2, e2, t2⟩ := mnum_spec p0 p1 sp t1 (by simp; omega)
    rw [e2, Option.bind_some]
    refine ⟨_, _, _, rfl, ?_⟩
    rw [pwr_spl p0 p1]
    show TP b2 c2 (E ++ ([] ++ ([iI 112] ++ spL p)))
    rw [List.nil_append, ← List.append_assoc]
    exact t2
  | d + 1, i, k + 1, bl, sp, bc, E, hi, hi1, hk, h, hE => by
    have hp : ((4 : Int32) * ((13 : Int32) - iI (i : Int))).toInt64 = iL ((4 * (13 - i) : Nat) : Int) := by
      rw [show (4 : Int32) = iI 4 from rfl, show (13 : Int32) = iI 13 from rfl, iI_sub, iI_mul, show 4 * (13 - (i : Int)) = ((4 * (13 - i) : Nat) : Int) by omega, iI_l (by omega) (by omega)]
    have hf0 : 0 ≤ f / 16 ^ (13 - i) := Int.ediv_nonneg f0 (Int.le_of_lt (p16_pos _))
    have hfl : f / 16 ^ (13 - i) ≤ f := Int.ediv_le_self _ f0
    rw [f_Md_hexadecimal2_141, if_neg (show ¬ iI (n : Int) < iI (i : Int) from by simp (disch := omega) only [iI_lit, iL_lit, iI_add, iI_sub, iI_mul, iI_neg, iL_add, iL_sub, iL_mul, iL_neg, iI_lt, iI_le, iI_eq, iL_lt, iL_le, iL_eqS, iI_c, iI_ok, iI_l, iL_i, iI_low, l_ushrI, l_shlI, l_shrI, i_shlI, i_shrI, i_ushrI, iI_div, iL_div, Int.toNat_natCast, Int.reduceToNat, iI_ofNat]; omega), hp, show (63 : Int64) = iL 63 from rfl, l_ushrI (by omega) (by omega) f0 (by omega), Int.toNat_natCast, p16]
    rw [show (15 : Int64) = iL (2 ^ 4 - 1) from rfl, iL_mask hf0 (by omega) (by omega), iL_i, show (2 : Int) ^ 4 = 16 from rfl, mhex_d (by omega) (by omega), Option.bind_some]
    obtain ⟨b1, c1, e1, t1⟩ := madd_spec h (by omega) (hxD (f / 16 ^ (13 - i) % 16))
    rw [sb_hx (by omega) (by omega)] at t1
    rw [e1, Option.bind_some, show iI (i : Int) + 1 = iI ((i + 1 : Nat) : Int) from by rw [show (1 : Int32) = iI 1 from rfl, iI_add]; rfl]
    obtain ⟨b2, s2, c2, e2, t2⟩ := mhx141 f0 f1 hn hm p0 p1 hend d (i + 1) k b1 sp c1 _ (by omega) (by omega) (by omega) t1 (by simp; omega)
    refine ⟨b2, s2, c2, e2, ?_⟩
    show TP b2 c2 (E ++ (([hxD (m / 16 ^ d % 16)] ++ hexL m d) ++ pwrE p))
    rw [hm d (by omega), show 13 - n + d = 13 - i by omega, List.append_assoc [_], ← List.append_assoc E]
    exact t2
set_option maxRecDepth 10000 in
def hexN (f : Int) (n : Nat) : Prop := 1 ≤ n ∧ n ≤ 13 ∧ f % 16 ^ (13 - n) = 0 ∧ (1 < n → f % 16 ^ (14 - n) ≠ 0)
set_option maxRecDepth 10000 in
theorem hexN_uniq {f : Int} {a b : Nat} (ha : hexN f a) (hb : hexN f b) : a = b := by
  have key : ∀ {a b : Nat}, hexN f a → hexN f b → ¬ a < b := by
    intro a b ha hb h
    have h1 := ha.1
    have h2 := hb.2.1
    apply hb.2.2.2 (by omega)
    have hd : ((16 : Int) ^ (14 - b)) ∣ 16 ^ (13 - a) := ⟨16 ^ (b - a - 1), by rw [← Int.pow_add]; congr 1; omega⟩
    exact Int.emod_eq_zero_of_dvd (Int.dvd_trans hd (Int.dvd_of_emod_eq_zero ha.2.2.1))
  have := key ha hb
  have := key hb ha
  omega
set_option maxRecDepth 10000 in
theorem mhx102 {S f e : Int} (f0 : 0 ≤ f) (f1 : f < 4503599627370496) (bl : Int32) (sp bc : Nat → Int32) :
    ∀ (n k : Nat), 1 ≤ n → n ≤ 13 → n ≤ k → f % 16 ^ (13 - n) = 0 → ∃ n', hexN f n' ∧ f_Md_hexadecimal2_102 k (iL S) (1 : Int32) (iL f) (iI e) (iI n) bl sp bc = f_Md_hexadecimal2_138 (iL S) (iL f) (iI e) (iI n') bl sp bc
  | 0, k, h1, _, _, _ => by omega
  | n + 1, 0, _, _, h, _ => by omega
  | n + 1, k + 1, h1, h2, h3, h4 => by
    rw [f_Md_hexadecimal2_102, if_neg (show ¬ (1 : Int32) = 0 from by decide)]
    by_cases q : n = 0
    · subst q
      rw [if_pos (show iI ((0 + 1 : Nat) : Int) ≤ 1 from by decide)]
      exact ⟨1, ⟨by omega, by omega, h4, fun w => absurd w (by omega)⟩, rfl⟩
    · rw [if_neg (show ¬ iI ((n + 1 : Nat) : Int) ≤ 1 from by simp (disch := omega) only [iI_lit, iL_lit, iI_add, iI_sub, iI_mul, iI_neg, iL_add, iL_sub, iL_mul, iL_neg, iI_lt, iI_le, iI_eq, iL_lt, iL_le, iL_eqS, iI_c, iI_ok, iI_l, iL_i, iI_low, l_ushrI, l_shlI, l_shrI, i_shlI, i_shrI, i_ushrI, iI_div, iL_div, Int.toNat_natCast, Int.reduceToNat, iI_ofNat]; omega)]
      have hp : ((4 : Int32) * ((13 : Int32) - iI ((n + 1 : Nat) : Int))).toInt64 = iL ((4 * (13 - (n + 1)) : Nat) : Int) := by
        rw [show (4 : Int32) = iI 4 from rfl, show (13 : Int32) = iI 13 from rfl, iI_sub, iI_mul, show 4 * (13 - ((n + 1 : Nat) : Int)) = ((4 * (13 - (n + 1)) : Nat) : Int) by omega, iI_l (by omega) (by omega)]
      have hf0 : 0 ≤ f / 16 ^ (13 - (n + 1)) := Int.ediv_nonneg f0 (Int.le_of_lt (p16_pos _))
      have hfl : f / 16 ^ (13 - (n + 1)) ≤ f := Int.ediv_le_self _ f0
      rw [hp, show (63 : Int64) = iL 63 from rfl, l_ushrI (by omega) (by omega) f0 (by omega), Int.toNat_natCast, p16, show (15 : Int64) = iL (2 ^ 4 - 1) from rfl, iL_mask hf0 (by omega) (by omega), show (2 : Int) ^ 4 = 16 from rfl]
      have hz : (iL (f / 16 ^ (13 - (n + 1)) % 16) = (0 : Int64)) = (f / 16 ^ (13 - (n + 1)) % 16 = 0) := by
        rw [show (0 : Int64) = iL 0 from rfl, iL_eqU (by omega) (by omega) (by omega) (by omega)]
      simp only [hz]
      -- a digit more that is 0
      have hP := p16_pos (13 - (n + 1))
      have hpe : (16 : Int) ^ (13 - n) = 16 ^ (13 - (n + 1)) * 16 := by rw [show 13 - n = 13 - (n + 1) + 1 by omega, Int.pow_succ]
      have hdm := Int.mul_ediv_add_emod f (16 ^ (13 - (n + 1)))
      have iff : f % 16 ^ (13 - n) = 0 ↔ f / 16 ^ (13 - (n + 1)) % 16 = 0 := by
        rw [hpe]
        rw [h4, Int.add_zero] at hdm
        generalize f / 16 ^ (13 - (n + 1)) = Q at *
        generalize (16 : Int) ^ (13 - (n + 1)) = P at *
        rw [← hdm, Int.mul_emod_mul_of_pos _ _ hP]
        constructor
        · intro w
          rcases Int.mul_eq_zero.mp w with x | x
          · omega
          · exact x
        · intro w; rw [w, Int.mul_zero]
      by_cases w : f / 16 ^ (13 - (n + 1)) % 16 = 0
      · rw [if_pos w, show (-1 : Int32) = iI (-1) from rfl, iI_add, show ((n + 1 : Nat) : Int) + -1 = (n : Int) by omega]
        exact mhx102 f0 f1 bl sp bc n k (by omega) (by omega) (by omega) (iff.mpr w)
      · rw [if_neg w]
        exact ⟨n + 1, ⟨by omega, h2, h4, fun _ => by rw [show 14 - (n + 1) = 13 - n by omega]; exact fun x => w (iff.mp x)⟩, rfl⟩
-- XS
set_option maxRecDepth 10000 in
def rndT (c : Int) (w : Nat) (P : Int) : List Int32 := if neV c (52 - 4 * w) / 16 ^ w = 2 then fracT (neV c (52 - 4 * w) / 2) w (P + 1) else fracT (neV c (52 - 4 * w)) w P
set_option maxRecDepth 10000 in
theorem rnd_b {c : Int} {w : Nat} (hw0 : 1 ≤ w) (hw : w ≤ 12) (c0 : 4503599627370496 ≤ c) (c1 : c < 9007199254740992) : 16 ^ w ≤ neV c (52 - 4 * w) ∧ neV c (52 - 4 * w) ≤ 2 * 16 ^ w := by
  have hp := p2_pos (52 - 4 * w)
  have hq := p16_pos w
  have e : (2 : Int) ^ (52 - 4 * w) * 16 ^ w = 4503599627370496 := by
    rw [← p16, ← Int.pow_add, show 52 - 4 * w + 4 * w = 52 by omega]; decide
  have a1 : 16 ^ w ≤ c / 2 ^ (52 - 4 * w) := by
    apply Int.le_ediv_of_mul_le hp
    rw [Int.mul_comm, e]; exact c0
  have a2 : c / 2 ^ (52 - 4 * w) < 2 * 16 ^ w := by
    apply Int.ediv_lt_of_lt_mul hp
    have : 2 * 16 ^ w * 2 ^ (52 - 4 * w) = 2 * ((2 : Int) ^ (52 - 4 * w) * 16 ^ w) := by grind
    omega
  unfold neV
  split <;> omega
set_option maxRecDepth 10000 in
theorem mhx380 {T p : Int} (t0 : 0 ≤ T) (t1 : T < 9223372036854775808) (p0 : -9000 ≤ p) (p1 : p ≤ 9000) :
    ∀ (d k : Nat) (bl : Int32) (sp bc : Nat → Int32) (E : List Int32), d ≤ 15 → d < k → TP bl bc E → E.length + d + 20 < 12000 → ∃ bl' sp' bc', f_Md_hexadecimal2_380 k (iI p) (iL T) (iI ((d : Int) - 1)) bl sp bc = some (bl', sp', bc') ∧ TP bl' bc' (E ++ (hexL T d ++ pwrE p))
  | 0, k + 1, bl, sp, bc, E, hd, hk, h, hE => by
    rw [f_Md_hexadecimal2_380, if_pos (show iI (((0 : Nat) : Int) - 1) < 0 from by decide)]
    obtain ⟨b1, c1, e1, t1⟩ := madd_i h (by omega) (a := 112) (by omega) (by omega)
    rw [show (112 : Int32) = iI 112 from rfl, e1, Option.bind_some]
    obtain ⟨sp', b2, c2, e2, t2⟩ := mnum_spec p0 p1 sp t1 (by simp; omega)
    rw [e2, Option.bind_some]
    refine ⟨_, _, _, rfl, ?_⟩
    rw [pwr_spl p0 p1]
    show TP b2 c2 (E ++ ([] ++ ([iI 112] ++ spL p)))
    rw [List.nil_append, ← List.append_assoc]
    exact t2
  | d + 1, k + 1, bl, sp, bc, E, hd, hk, h, hE => by
    have hp : ((4 : Int32) * iI (((d + 1 : Nat) : Int) - 1)).toInt64 = iL ((4 * d : Nat) : Int) := by
      rw [show (4 : Int32) = iI 4 from rfl, iI_mul, show 4 * (((d + 1 : Nat) : Int) - 1) = ((4 * d : Nat) : Int) by omega, iI_l (by omega) (by omega)]
    have hf0 : 0 ≤ T / 16 ^ d := Int.ediv_nonneg t0 (Int.le_of_lt (p16_pos _))
    have hfl : T / 16 ^ d ≤ T := Int.ediv_le_self _ t0
    rw [f_Md_hexadecimal2_380, if_neg (show ¬ iI (((d + 1 : Nat) : Int) - 1) < 0 from by simp (disch := omega) only [iI_lit, iL_lit, iI_add, iI_sub, iI_mul, iI_neg, iL_add, iL_sub, iL_mul, iL_neg, iI_lt, iI_le, iI_eq, iL_lt, iL_le, iL_eqS, iI_c, iI_ok, iI_l, iL_i, iI_low, l_ushrI, l_shlI, l_shrI, i_shlI, i_shrI, i_ushrI, iI_div, iL_div, Int.toNat_natCast, Int.reduceToNat, iI_ofNat]; omega), hp, show (63 : Int64) = iL 63 from rfl, l_ushrI (by omega) (by omega) t0 (by omega), Int.toNat_natCast, p16]
    rw [show (15 : Int64) = iL (2 ^ 4 - 1) from rfl, iL_mask hf0 (by omega) (by omega), iL_i, show (2 : Int) ^ 4 = 16 from rfl, mhex_d (by omega) (by omega), Option.bind_some]
    obtain ⟨b1, c1, e1, t1'⟩ := madd_spec h (by omega) (hxD (T / 16 ^ d % 16))
    rw [sb_hx (by omega) (by omega)] at t1'
    rw [e1, Option.bind_some, show (-1 : Int32) = iI (-1) from rfl, iI_add, show ((d + 1 : Nat) : Int) - 1 + -1 = (d : Int) - 1 by omega]
    obtain ⟨b2, s2, c2, e2, t2⟩ := mhx380 t0 t1 p0 p1 d k b1 sp c1 _ (by omega) (by omega) t1' (by simp; omega)
    refine ⟨b2, s2, c2, e2, ?_⟩
    show TP b2 c2 (E ++ (([hxD (T / 16 ^ d % 16)] ++ hexL T d) ++ pwrE p))
    rw [List.append_assoc [_], ← List.append_assoc E]
    exact t2
set_option maxRecDepth 10000 in
theorem mhx362 {T p : Int} {w : Nat} (hw0 : 1 ≤ w) (hw : w ≤ 12) (t0 : 16 ^ w ≤ T) (t1 : T < 2 * 16 ^ w) (p0 : -9000 ≤ p) (p1 : p ≤ 9000) {bl : Int32} (sp : Nat → Int32) {bc : Nat → Int32} {E : List Int32} (h : TP bl bc E) (hE : E.length + 60 < 12000) :
    ∃ bl' sp' bc', f_Md_hexadecimal2_362 (iI w) (iI p) (iL T) bl sp bc = some (bl', sp', bc') ∧ TP bl' bc' (E ++ fracT T w p) := by
  have hq := p16_pos w
  have hq2 : (16 : Int) ^ w ≤ 16 ^ 12 := by rw [← p16, ← p16]; exact p2_mono (by omega)
  rw [show (16 : Int) ^ 12 = 281474976710656 from by decide] at hq2
  unfold f_Md_hexadecimal2_362
  obtain ⟨b1, c1, e1, h1⟩ := madd_i h (by omega) (a := 49) (by omega) (by omega)
  rw [show (49 : Int32) = iI 49 from rfl, e1, Option.bind_some]
  dsimp only
  obtain ⟨b2, c2, e2, h2⟩ := madd_i h1 (by simp; omega) (a := 46) (by omega) (by omega)
  rw [show (46 : Int32) = iI 46 from rfl, e2, Option.bind_some]
  dsimp only
  obtain ⟨b3, s3, c3, e3, h3⟩ := mhx380 (T := T) (p := p) (by omega) (by omega) p0 p1 w gx_fu b2 sp c2 _ (by omega) (by have := fu_pos; omega) h2 (by simp; omega)
  rw [show (1 : Int32) = iI 1 from rfl, iI_sub, e3]
  refine ⟨_, _, _, rfl, ?_⟩
  have htop : T / 16 ^ w = 1 := by
    have a1 : 1 ≤ T / 16 ^ w := Int.le_ediv_of_mul_le hq (by omega)
    have a2 : T / 16 ^ w < 2 := Int.ediv_lt_of_lt_mul hq t1
    omega
  unfold fracT
  rw [htop, show hxD (1 % 16) = iI 49 from by decide, ← List.append_assoc E, ← List.append_assoc (E ++ _)]
  exact h3
set_option maxRecDepth 10000 in
theorem mhx251e {c P : Int} {w : Nat} (hw0 : 1 ≤ w) (hw : w ≤ 12) (c0 : 4503599627370496 ≤ c) (c1 : c < 9007199254740992) (p0 : -8000 ≤ P) (p1 : P ≤ 8000) {bl : Int32} (sp : Nat → Int32) {bc : Nat → Int32} {E : List Int32} (h : TP bl bc E) (hE : E.length + 60 < 12000) (k : Nat) :
    ∃ bl' sp' bc', f_Md_hexadecimal2_251 (k + 1) (iI w) (iI P) (iL c) bl sp bc = some (bl', sp', bc') ∧ TP bl' bc' (E ++ rndT c w P) := by
  have hq := p16_pos w
  have hq2 : (16 : Int) ^ w ≤ 16 ^ 12 := by rw [← p16, ← p16]; exact p2_mono (by omega)
  rw [show (16 : Int) ^ 12 = 281474976710656 from by decide] at hq2
  obtain ⟨r0, r1⟩ := rnd_b hw0 hw c0 c1
  have hdp : ((52 : Int32) - (4 : Int32) * iI (w : Int)) = iI ((52 - 4 * w : Nat) : Int) := by
    rw [show (52 : Int32) = iI 52 from rfl, show (4 : Int32) = iI 4 from rfl, iI_mul, iI_sub]; congr 1; omega
  have hd1 : 4 ≤ 52 - 4 * w := by omega
  have hd2 : 52 - 4 * w ≤ 48 := by omega
  rw [f_Md_hexadecimal2_251, show (52 : Int32).toInt64 = iL 52 from rfl]
  have hz := shr0 (m := c) (by omega) (by omega) (show (0 : Int) ≤ 52 by omega) (show (52 : Int) < 64 by omega)
  simp only [hz]
  rw [if_neg (show ¬ c < 2 ^ (52 : Int).toNat by rw [show (2 : Int) ^ (52 : Int).toNat = 4503599627370496 from by decide]; omega), hdp]
  -- the end: a number T of digits
  have fin : ∀ T : Int, T = neV c (52 - 4 * w) → ∃ bl' sp' bc', f_Md_hexadecimal2_339 (iI w) (iI P) (iL T) bl sp bc = some (bl', sp', bc') ∧ TP bl' bc' (E ++ rndT c w P) := by
    intro T hT
    unfold f_Md_hexadecimal2_339 rndT
    rw [← hT]
    rw [← hT] at r0 r1
    have hTd : 0 ≤ T / 16 ^ w := Int.ediv_nonneg (by omega) (by omega)
    have hTl : T / 16 ^ w ≤ T := Int.ediv_le_self _ (by omega)
    rw [show (4 : Int32) = iI 4 from rfl, iI_mul, iI_l (by omega) (by omega), show (63 : Int64) = iL 63 from rfl, l_ushrI (by omega) (by omega) (by omega) (by omega), show (4 * (w : Int)).toNat = 4 * w by omega, p16]
    have h2 : (iL (T / 16 ^ w) = (2 : Int64)) = (T / 16 ^ w = 2) := by rw [show (2 : Int64) = iL 2 from rfl, iL_eqU hTd (by omega) (by omega) (by omega)]
    simp only [h2]
    by_cases q : T / 16 ^ w = 2
    · have hT2 : T = 2 * 16 ^ w := by
        have := Int.ediv_mul_le T (show (16 : Int) ^ w ≠ 0 by omega)
        rw [q] at this
        omega
      rw [if_pos q, if_pos q, show (1 : Int32).toInt64 = iL 1 from rfl, show (1 : Int32) = iI 1 from rfl, l_shrI (by omega) (by omega) (by omega) (by omega), iI_add, show (2 : Int) ^ (1 : Int).toNat = 2 from rfl]
      exact mhx362 hw0 hw (by omega) (by omega) (by omega) (by omega) sp h hE
    · have hT2 : T < 2 * 16 ^ w := by
        rcases Int.lt_or_le T (2 * 16 ^ w) with x | x
        · exact x
        · exfalso; apply q
          have : T = 2 * 16 ^ w := by omega
          rw [this, Int.mul_ediv_cancel _ (by omega)]
      rw [if_neg q, if_neg q]
      exact mhx362 hw0 hw r0 hT2 (by omega) (by omega) sp h hE
  generalize hD : 52 - 4 * w = D at *
  have hPd := p2_pos D
  have hPm : (2 : Int) ^ D ≤ 2 ^ 48 := p2_mono hd2
  rw [show (2 : Int) ^ 48 = 281474976710656 from by decide] at hPm
  have hPe : (2 : Int) ^ D = 2 * 2 ^ (D - 1) := by rw [show D = D - 1 + 1 by omega, Int.pow_succ, Int.mul_comm]; rfl
  have hr0 := Int.emod_nonneg c (show (2 : Int) ^ D ≠ 0 by omega)
  have hr1 := Int.emod_lt_of_pos c hPd
  have hq0 : 0 ≤ c / 2 ^ D := Int.ediv_nonneg (by omega) (by omega)
  have hql : c / 2 ^ D ≤ c := Int.ediv_le_self _ (by omega)
  rw [show (1 : Int32) = iI 1 from rfl, iI_sub, iI_l (by omega) (by omega), iI_l (by omega) (by omega), show (63 : Int64) = iL 63 from rfl, show (1 : Int64) = iL 1 from rfl, l_shlI (by omega) (by omega), l_shlI (by omega) (by omega), l_ushrI (by omega) (by omega) (by omega) (by omega), Int.toNat_natCast, show ((D : Int) - 1).toNat = D - 1 by omega, Int.one_mul, Int.one_mul, iL_sub, iL_mask (by omega) (by omega) (by omega), one_and hq0 (by omega)]
  have c1' : (iL (2 ^ (D - 1)) < iL (c % 2 ^ D)) = (2 ^ (D - 1) < c % 2 ^ D) := iL_lt (by omega) (by omega) (by omega) (by omega)
  have c2' : (iL (c % 2 ^ D) = iL (2 ^ (D - 1))) = (c % 2 ^ D = 2 ^ (D - 1)) := iL_eqU (by omega) (by omega) (by omega) (by omega)
  have c3' : (iL (c / 2 ^ D % 2) = iL 1) = (c / 2 ^ D % 2 = 1) := iL_eqU (by omega) (by omega) (by omega) (by omega)
  simp only [c1', c2', c3']
  unfold f_Md_hexadecimal2_333
  rw [show (1 : Int64) = iL 1 from rfl, iL_add]
  unfold neV at fin
  generalize c / 2 ^ D = C at *
  generalize c % 2 ^ D = R at *
  generalize (2 : Int) ^ (D - 1) = H at *
  generalize (2 : Int) ^ D = PP at *
  by_cases k1 : H < R
  · rw [if_pos k1]; exact fin (C + 1) (by rw [if_pos (by omega)])
  · rw [if_neg k1]
    by_cases k2 : R = H
    · rw [if_pos k2]
      by_cases k3 : C % 2 = 1
      · rw [if_pos k3]; exact fin (C + 1) (by rw [if_pos (by omega)])
      · rw [if_neg k3]; exact fin C (by rw [if_neg (by omega), Int.add_zero])
    · rw [if_neg k2]; exact fin C (by rw [if_neg (by omega), Int.add_zero])
set_option maxRecDepth 10000 in
theorem mhx251 {w : Nat} (hw0 : 1 ≤ w) (hw : w ≤ 12) {bl : Int32} (sp : Nat → Int32) {bc : Nat → Int32} {E : List Int32} (h : TP bl bc E) (hE : E.length + 60 < 12000) :
    ∀ (j m : Nat) (c P : Int), 0 < c → 4503599627370496 ≤ c * 2 ^ j → c * 2 ^ j < 9007199254740992 → j < m → j ≤ 100 → -7000 ≤ P - j → P ≤ 8000 → ∃ bl' sp' bc', f_Md_hexadecimal2_251 m (iI w) (iI P) (iL c) bl sp bc = some (bl', sp', bc') ∧ TP bl' bc' (E ++ rndT (c * 2 ^ j) w (P - j)) := by
  intro j
  induction j with
  | zero =>
    intro m c P hc h0 h1 hm hj p0 p1
    obtain ⟨m, rfl⟩ : ∃ k, m = k + 1 := ⟨m - 1, by omega⟩
    rw [Int.pow_zero, Int.mul_one] at h0 h1 ⊢
    rw [show P - ((0 : Nat) : Int) = P by omega]
    exact mhx251e hw0 hw h0 h1 (by omega) p1 sp h hE m
  | succ j ih =>
    intro m c P hc h0 h1 hm hj p0 p1
    obtain ⟨m, rfl⟩ : ∃ k, m = k + 1 := ⟨m - 1, by omega⟩
    have hpj := p2_pos j
    have e : c * 2 ^ (j + 1) = c * 2 * 2 ^ j := by rw [Int.pow_succ]; grind
    rw [e] at h0 h1 ⊢
    have hlt : c < 4503599627370496 := by
      apply Int.not_le.mp
      intro x
      have := Int.mul_le_mul_of_nonneg_left (show (1 : Int) ≤ 2 ^ j from hpj) (show 0 ≤ c * 2 by omega)
      omega
    rw [f_Md_hexadecimal2_251, show (52 : Int32).toInt64 = iL 52 from rfl]
    have hz := shr0 (m := c) (by omega) (by omega) (show (0 : Int) ≤ 52 by omega) (show (52 : Int) < 64 by omega)
    simp only [hz]
    rw [if_pos (show c < 2 ^ (52 : Int).toNat by rw [show (2 : Int) ^ (52 : Int).toNat = 4503599627370496 from by decide]; omega)]
    rw [show (1 : Int32).toInt64 = iL 1 from rfl, show (63 : Int64) = iL 63 from rfl, l_shlI (by omega) (by omega), show (2 : Int) ^ (1 : Int).toNat = 2 from rfl, show (-1 : Int32) = iI (-1) from rfl, iI_add]
    have := ih m (c * 2) (P + -1) (by omega) h0 h1 (by omega) (by omega) (by omega) (by omega)
    rw [show P + -1 - (j : Int) = P - ((j + 1 : Nat) : Int) by omega] at this
    exact this
