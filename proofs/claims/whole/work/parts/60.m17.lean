-- YJ
set_option maxRecDepth 10000 in
theorem hr_dig {E : List Int32} {z i : Nat} (hz : z ≤ E.length) (h : 48 ≤ hr E z i ∧ hr E z i ≤ 57) {t : Int32} {tc : Nat → Int32} (ht : TP t tc E) : tc i = iI (hr E z i) ∧ i < z := by
  have hi := hr_in (E := E) (z := z) (i := i) (by omega)
  obtain ⟨a, a0, a1, e, ea⟩ := tp_at ht (show i < E.length by omega)
  have eh : hr E z i = ubAt E i := if_pos hi
  refine ⟨?_, hi⟩
  rw [e, eh, ea]
  rw [eh, ea] at h
  split
  · rfl
  · rename_i q
    rw [if_neg q] at h
    omega
set_option maxRecDepth 10000 in
theorem mx43 {t : Int32} {tc : Nat → Int32} {E : List Int32} (h : TP t tc E) (hE : E.length ≤ 65536) {z : Nat} (hz : z ≤ E.length) (v1 : Int32) :
    ∀ (d i m : Nat) (e : Int), i + d = z → d < m → 0 ≤ e → e < 100000000 → f_Md_exponent_43 m v1 (iL e) (iI i) (iI z) tc = (if v1 = 0 then some (iL (eRun E z 10000000 d e i).1, iI (eRun E z 10000000 d e i).2) else some (iL (-(eRun E z 10000000 d e i).1), iI (eRun E z 10000000 d e i).2))
  | 0, i, m + 1, e, hi, hm, he0, he1 => by
    have : ¬ (48 ≤ hr E z i ∧ hr E z i ≤ 57) := by
      unfold hr; rw [if_neg (by omega)]; omega
    rw [f_Md_exponent_43, mddig_spec h hE hz (by omega), Option.bind_some, if_neg this, if_pos (show iI 0 = 0 from rfl), iL_neg]
    rfl
  | d + 1, i, m + 1, e, hi, hm, he0, he1 => by
    rw [f_Md_exponent_43, mddig_spec h hE hz (by omega), Option.bind_some]
    unfold eRun
    by_cases q : 48 ≤ hr E z i ∧ hr E z i ≤ 57
    · obtain ⟨e2, _⟩ := hr_dig hz q h
      rw [if_pos q, if_neg (show ¬ iI 1 = 0 from by decide), if_pos q]
      unfold f_Md_exponent_79
      have e1 : iI (i : Int) + 1 = iI ((i + 1 : Nat) : Int) := by rw [show (1 : Int32) = iI 1 from rfl, iI_add]; rfl
      by_cases r : 10000000 ≤ e
      · rw [if_pos (show (10000000 : Int64) ≤ iL e from by simp (disch := omega) only [iI_lit, iL_lit, iI_add, iI_sub, iI_mul, iI_neg, iL_add, iL_sub, iL_mul, iL_neg, iI_lt, iI_le, iI_eq, iL_lt, iL_le, iL_eqS, iI_c, iI_ok, iI_l, iL_i, iI_low, l_ushrI, l_shlI, l_shrI, i_shlI, i_shrI, i_ushrI, iI_div, iL_div, Int.toNat_natCast, Int.reduceToNat, iI_ofNat]; omega), e1, if_pos r]
        exact mx43 h hE hz v1 d (i + 1) m e (by omega) (by omega) he0 he1
      · rw [if_neg (show ¬ (10000000 : Int64) ≤ iL e from by simp (disch := omega) only [iI_lit, iL_lit, iI_add, iI_sub, iI_mul, iI_neg, iL_add, iL_sub, iL_mul, iL_neg, iI_lt, iI_le, iI_eq, iL_lt, iL_le, iL_eqS, iI_c, iI_ok, iI_l, iL_i, iI_low, l_ushrI, l_shlI, l_shrI, i_shlI, i_shrI, i_ushrI, iI_div, iL_div, Int.toNat_natCast, Int.reduceToNat, iI_ofNat]; omega), e1, if_neg r, if_pos (show gx_ok (iI (i : Int)) 65536 = true from by simp (disch := omega) only [iI_lit, iL_lit, iI_add, iI_sub, iI_mul, iI_neg, iL_add, iL_sub, iL_mul, iL_neg, iI_lt, iI_le, iI_eq, iL_lt, iL_le, iL_eqS, iI_c, iI_ok, iI_l, iL_i, iI_low, l_ushrI, l_shlI, l_shrI, i_shlI, i_shrI, i_ushrI, iI_div, iL_div, Int.toNat_natCast, Int.reduceToNat, iI_ofNat]; omega)]
        rw [iI_c (by omega) (by omega), Int.toNat_natCast, e2, iI_l (by omega) (by omega), show (10 : Int64) = iL 10 from rfl, show (48 : Int64) = iL 48 from rfl, iL_mul, iL_add, iL_sub, show 10 * e + hr E z i - 48 = 10 * e + (hr E z i - 48) by omega]
        exact mx43 h hE hz v1 d (i + 1) m _ (by omega) (by omega) (by omega) (by omega)
    · rw [if_neg q, if_pos (show iI 0 = 0 from rfl), if_neg q, iL_neg]
set_option maxRecDepth 10000 in
theorem eRun_pos {E : List Int32} {z : Nat} {L : Int} {d i : Nat} {e : Int} (h : i + d = z) : (i < (eRun E z L d e i).2) = (48 ≤ hr E z i ∧ hr E z i ≤ 57) := by
  apply propext
  cases d with
  | zero =>
    have : ¬ (48 ≤ hr E z i ∧ hr E z i ≤ 57) := by unfold hr; rw [if_neg (by omega)]; omega
    exact ⟨fun q => absurd q (Nat.lt_irrefl _), fun q => absurd q this⟩
  | succ d =>
    unfold eRun
    by_cases q : 48 ≤ hr E z i ∧ hr E z i ≤ 57
    · rw [if_pos q]
      have := eRun_b E z L d (if L ≤ e then e else 10 * e + (hr E z i - 48)) (i + 1)
      exact ⟨fun _ => q, fun _ => by omega⟩
    · rw [if_neg q]
      exact ⟨fun w => absurd w (Nat.lt_irrefl _), fun w => absurd w q⟩
set_option maxRecDepth 10000 in
theorem mexp_spec {t : Int32} {tc : Nat → Int32} {E : List Int32} (h : TP t tc E) (hE : E.length ≤ 65536) {z i : Nat} (hz : z ≤ E.length) (hi : i ≤ z) :
    f_Md_exponent (iI i) (iI z) tc = some (if xBeg E z i < xEnd E z i then iL (xM E z i) else (-9223372036854775808 : Int64), iI (xEnd E z i)) := by
  have e1 : iI (i : Int) + 1 = iI ((i + 1 : Nat) : Int) := by rw [show (1 : Int32) = iI 1 from rfl, iI_add]; rfl
  have hx := xBeg_b (E := E) hi
  have hy := xEnd_b (E := E) hi
  obtain ⟨xe, _⟩ := x_rel E z i
  have key : ∀ v1 : Int, (v1 = if hr E z i = 45 then 1 else 0) → f_Md_exponent_30 (iI v1) (iI (xBeg E z i)) (iI z) tc = some (if xBeg E z i < xEnd E z i then iL (xM E z i) else (-9223372036854775808 : Int64), iI (xEnd E z i)) := by
    intro v1 hv
    unfold f_Md_exponent_30
    rw [mddig_spec h hE hz (by omega), Option.bind_some]
    have hp := eRun_pos (E := E) (z := z) (L := 10000000) (d := z - xBeg E z i) (i := xBeg E z i) (e := 0) (by omega)
    rw [← xe] at hp
    by_cases q : 48 ≤ hr E z (xBeg E z i) ∧ hr E z (xBeg E z i) ≤ 57
    · have hlt : xBeg E z i < xEnd E z i := by rw [hp]; exact q
      rw [if_pos q, if_neg (show ¬ iI 1 = 0 from by decide), if_pos hlt, show (0 : Int64) = iL 0 from rfl, mx43 h hE hz (iI v1) (z - xBeg E z i) (xBeg E z i) gx_fu 0 (by omega) (by have := fu_pos; omega) (by omega) (by omega), ← xe]
      by_cases r : hr E z i = 45
      · rw [if_pos r] at hv
        subst hv
        have : xM E z i = -(eRun E z 10000000 (z - xBeg E z i) 0 (xBeg E z i)).1 := if_pos r
        rw [if_neg (show ¬ iI 1 = 0 from by decide), this]
      · rw [if_neg r] at hv
        subst hv
        have : xM E z i = (eRun E z 10000000 (z - xBeg E z i) 0 (xBeg E z i)).1 := if_neg r
        rw [if_pos (show iI 0 = 0 from rfl), this]
    · have hlt : ¬ xBeg E z i < xEnd E z i := by rw [hp]; exact q
      rw [if_neg q, if_pos (show iI 0 = 0 from rfl), if_neg hlt, show xEnd E z i = xBeg E z i by omega]
  unfold f_Md_exponent f_Md_exponent_20
  rw [e1, show (45 : Int32) = iI 45 from rfl, show (43 : Int32) = iI 43 from rfl, mdis_spec h hE hz (by omega) (by omega) (by omega), Option.bind_some, mdis_spec h hE hz (by omega) (by omega) (by omega), Option.bind_some]
  by_cases q : hr E z i = 45
  · have hb : xBeg E z i = i + 1 := if_pos (Or.inl q)
    have k := key 1 (by rw [if_pos q])
    rw [hb] at k ⊢
    rw [if_pos q, if_neg (show ¬ iI 1 = 0 from by decide)]
    exact k
  · rw [if_neg q, if_pos (show iI 0 = 0 from rfl)]
    by_cases r : hr E z i = 43
    · have hb : xBeg E z i = i + 1 := if_pos (Or.inr r)
      have k := key 0 (by rw [if_neg q])
      rw [hb] at k ⊢
      rw [if_pos r, if_neg (show ¬ iI 1 = 0 from by decide)]
      exact k
    · have hb : xBeg E z i = i := if_neg (by omega)
      have k := key 0 (by rw [if_neg q])
      rw [hb] at k ⊢
      rw [if_neg r, if_pos (show iI 0 = 0 from rfl)]
      exact k
-- YK
set_option maxRecDepth 10000 in
theorem dRun_dig (E : List Int32) (z : Nat) : ∀ d N i, i + d = z → ¬ (48 ≤ hr E z (dRun E z d N i).2 ∧ hr E z (dRun E z d N i).2 ≤ 57)
  | 0, N, i, h => by
    show ¬ (48 ≤ hr E z i ∧ hr E z i ≤ 57)
    unfold hr; rw [if_neg (by omega)]; omega
  | d + 1, N, i, h => by
    unfold dRun
    by_cases q : 48 ≤ hr E z i ∧ hr E z i ≤ 57
    · rw [if_pos q]; exact dRun_dig E z d _ (i + 1) (by omega)
    · rw [if_neg q]; exact q
set_option maxRecDepth 10000 in
def MS (N f : Nat) (dc : Int32) (pt : Int64) (dg : Nat → Int32) : Prop := dc = iI (nd N) ∧ pt = iL ((nd N : Int) - f) ∧ ∀ i, i < nd N → dg i = iI (digF N i)
set_option maxRecDepth 10000 in
theorem md_step {t : Int32} {tc : Nat → Int32} {E : List Int32} (h : TP t tc E) (hE : E.length ≤ 65536) {z i : Nat} (hz : z ≤ E.length) (hd : 48 ≤ hr E z i ∧ hr E z i ≤ 57) {N f bh : Nat} (hbh : bh ≤ 1) (hnd : nd N ≤ i) {dc : Int32} {pt : Int64} {dg : Nat → Int32} (hM : MS N f dc pt dg) (m : Nat) (an : Int) (bi le us hn_ hp_ en ep : Int32) (hdc edc : Nat → Int32) (lc : Nat → Int64) :
    ∃ dc' pt' dg', MS (10 * N + (hr E z i - 48).toNat) (f + bh) dc' pt' dg' ∧ f_Md_decimal_14 (m + 1) (iI an) (iI bh) (iI i) (iI z) tc dc pt bi le us hn_ hdc lc hp_ dg en edc ep = f_Md_decimal_14 m (iI (an + 1)) (iI bh) (iI ((i + 1 : Nat) : Int)) (iI z) tc dc' pt' bi le us hn_ hdc lc hp_ dg' en edc ep := by
  obtain ⟨et, hi⟩ := hr_dig hz hd h
  obtain ⟨rfl, rfl, hg⟩ := hM
  obtain ⟨x, hx⟩ : ∃ x : Nat, hr E z i = (x : Int) + 48 := ⟨(hr E z i - 48).toNat, by omega⟩
  have hx9 : x ≤ 9 := by omega
  have e1 : iI (i : Int) + 1 = iI ((i + 1 : Nat) : Int) := by rw [show (1 : Int32) = iI 1 from rfl, iI_add]; rfl
  have e2 : iI an + 1 = iI (an + 1) := by rw [show (1 : Int32) = iI 1 from rfl, iI_add]
  have hb01 : bh = 0 ∨ bh = 1 := by omega
  have hok : gx_ok (iI (i : Int)) 65536 = true := by simp (disch := omega) only [iI_lit, iL_lit, iI_add, iI_sub, iI_mul, iI_neg, iL_add, iL_sub, iL_mul, iL_neg, iI_lt, iI_le, iI_eq, iL_lt, iL_le, iL_eqS, iI_c, iI_ok, iI_l, iL_i, iI_low, l_ushrI, l_shlI, l_shrI, i_shlI, i_shrI, i_ushrI, iI_div, iL_div, Int.toNat_natCast, Int.reduceToNat, iI_ofNat]; omega
  have hok2 : gx_ok (iI (nd N : Int)) 65536 = true := by simp (disch := omega) only [iI_lit, iL_lit, iI_add, iI_sub, iI_mul, iI_neg, iL_add, iL_sub, iL_mul, iL_neg, iI_lt, iI_le, iI_eq, iL_lt, iL_le, iL_eqS, iI_c, iI_ok, iI_l, iL_i, iI_low, l_ushrI, l_shlI, l_shrI, i_shlI, i_shrI, i_ushrI, iI_div, iL_div, Int.toNat_natCast, Int.reduceToNat, iI_ofNat]; omega
  rw [f_Md_decimal_14, mddig_spec h hE hz (by omega), Option.bind_some, if_pos hd, if_neg (show ¬ iI 1 = 0 from by decide)]
  unfold f_Md_decimal_34 f_Md_decimal_72 f_Md_decimal_135
  rw [show (46 : Int32) = iI 46 from rfl, mdis_spec h hE hz (by omega) (by omega) (by omega), Option.bind_some, if_neg (show ¬ hr E z i = 46 by omega), if_pos (show iI 0 = 0 from rfl), e1, e2, if_pos hok, if_pos hok, if_pos hok2]
  rw [iI_c (by omega) (by omega), iI_c (by omega) (by omega), Int.toNat_natCast, Int.toNat_natCast, et, hx]
  rw [show (48 : Int32) = iI 48 from rfl, iI_sub, nar_b, show (x : Int) + 48 - 48 = (x : Int) by omega]
  have hsb : sb (iI (x : Int)) = iI x := by
    have : x = 0 ∨ x = 1 ∨ x = 2 ∨ x = 3 ∨ x = 4 ∨ x = 5 ∨ x = 6 ∨ x = 7 ∨ x = 8 ∨ x = 9 := by omega
    rcases this with rfl | rfl | rfl | rfl | rfl | rfl | rfl | rfl | rfl | rfl <;> decide
  rw [hsb, Int.toNat_natCast]
  -- a digit laid down
  have lay : 0 < 10 * N + x → MS (10 * N + x) (f + bh) (iI (nd N : Int) + 1) (if bh = 0 then iL ((nd N : Int) - f) + 1 else iL ((nd N : Int) - f)) (upd dg (nd N) (iI x)) := by
    intro hp
    have hs := nd_step (a := N) (d := x) (by omega) hp
    refine ⟨?_, ?_, ?_⟩
    · rw [show (1 : Int32) = iI 1 from rfl, iI_add, hs]; rfl
    · rcases hb01 with rfl | rfl
      · rw [if_pos rfl, show (1 : Int64) = iL 1 from rfl, iL_add, hs]; congr 1; omega
      · rw [if_neg (by decide), hs]; congr 1; omega
    · intro k hk
      rw [hs] at hk
      rw [digF_step (by omega) hp]
      by_cases w : k = nd N
      · rw [if_pos w, w, upd_s]
      · rw [if_neg w, upd_n w]; exact hg k (by omega)
  by_cases q0 : nd N = 0
  · have hN0 : N = 0 := by
      rcases Nat.eq_zero_or_pos N with r | r
      · exact r
      · have := nd_pos r; omega
    rw [if_neg (show ¬ (0 : Int32) < iI (nd N : Int) from by rw [q0]; decide)]
    by_cases qx : x = 0
    · subst qx
      rw [if_pos (show iI (((0 : Nat) : Int) + 48) = iI 48 from rfl)]
      subst hN0
      rcases hb01 with rfl | rfl
      · rw [if_pos (show iI ((0 : Nat) : Int) = 0 from rfl)]
        exact ⟨_, _, _, ⟨rfl, rfl, hg⟩, rfl⟩
      · rw [if_neg (show ¬ iI ((1 : Nat) : Int) = 0 from by decide), show (1 : Int64) = iL 1 from rfl, iL_sub]
        refine ⟨_, _, _, ⟨rfl, ?_, hg⟩, rfl⟩
        congr 1
        show (nd 0 : Int) - f - 1 = (nd 0 : Int) - (f + 1 : Nat)
        omega
    · rw [if_neg (show ¬ iI ((x : Int) + 48) = iI 48 from by simp (disch := omega) only [iI_lit, iL_lit, iI_add, iI_sub, iI_mul, iI_neg, iL_add, iL_sub, iL_mul, iL_neg, iI_lt, iI_le, iI_eq, iL_lt, iL_le, iL_eqS, iI_c, iI_ok, iI_l, iL_i, iI_low, l_ushrI, l_shlI, l_shrI, i_shlI, i_shrI, i_ushrI, iI_div, iL_div, Int.toNat_natCast, Int.reduceToNat, iI_ofNat]; omega)]
      have L := lay (by omega)
      rcases hb01 with rfl | rfl
      · rw [if_pos (show iI ((0 : Nat) : Int) = 0 from rfl)]
        exact ⟨_, _, _, L, rfl⟩
      · rw [if_neg (show ¬ iI ((1 : Nat) : Int) = 0 from by decide)]
        exact ⟨_, _, _, L, rfl⟩
  · rw [if_pos (show (0 : Int32) < iI (nd N : Int) from by simp (disch := omega) only [iI_lit, iL_lit, iI_add, iI_sub, iI_mul, iI_neg, iL_add, iL_sub, iL_mul, iL_neg, iI_lt, iI_le, iI_eq, iL_lt, iL_le, iL_eqS, iI_c, iI_ok, iI_l, iL_i, iI_low, l_ushrI, l_shlI, l_shrI, i_shlI, i_shrI, i_ushrI, iI_div, iL_div, Int.toNat_natCast, Int.reduceToNat, iI_ofNat]; omega)]
    have hN0 : 0 < N := by
      rcases Nat.eq_zero_or_pos N with r | r
      · subst r; rw [nd_zero] at q0; exact absurd rfl q0
      · exact r
    have L := lay (by omega)
    rcases hb01 with rfl | rfl
    · rw [if_pos (show iI ((0 : Nat) : Int) = 0 from rfl)]
      exact ⟨_, _, _, L, rfl⟩
    · rw [if_neg (show ¬ iI ((1 : Nat) : Int) = 0 from by decide)]
      exact ⟨_, _, _, L, rfl⟩
set_option maxRecDepth 10000 in
theorem md_loop {t : Int32} {tc : Nat → Int32} {E : List Int32} (h : TP t tc E) (hE : E.length ≤ 65536) {z : Nat} (hz : z ≤ E.length) {bh : Nat} (hbh : bh ≤ 1) (bi le us hn_ hp_ en ep : Int32) (hdc edc : Nat → Int32) (lc : Nat → Int64) :
    ∀ (d i m N f : Nat) (an : Int) (dc : Int32) (pt : Int64) (dg : Nat → Int32), i + d = z → d < m → nd N ≤ i → MS N f dc pt dg →
    ∃ m' dc' pt' dg', m' + ((dRun E z d N i).2 - i) = m ∧ MS (dRun E z d N i).1 (f + bh * ((dRun E z d N i).2 - i)) dc' pt' dg' ∧ f_Md_decimal_14 m (iI an) (iI bh) (iI i) (iI z) tc dc pt bi le us hn_ hdc lc hp_ dg en edc ep = f_Md_decimal_14 m' (iI (an + ((dRun E z d N i).2 - i : Nat))) (iI bh) (iI (dRun E z d N i).2) (iI z) tc dc' pt' bi le us hn_ hdc lc hp_ dg' en edc ep
  | 0, i, m, N, f, an, dc, pt, dg, hi, hm, hnd, hM => by
    refine ⟨m, dc, pt, dg, ?_, ?_, ?_⟩
    · show m + (i - i) = m; omega
    · show MS N (f + bh * (i - i)) dc pt dg
      rw [Nat.sub_self, Nat.mul_zero, Nat.add_zero]; exact hM
    · show _ = f_Md_decimal_14 m (iI (an + (i - i : Nat))) (iI bh) (iI i) (iI z) tc dc pt bi le us hn_ hdc lc hp_ dg en edc ep
      rw [Nat.sub_self, show an + ((0 : Nat) : Int) = an by omega]
  | d + 1, i, m + 1, N, f, an, dc, pt, dg, hi, hm, hnd, hM => by
    by_cases q : 48 ≤ hr E z i ∧ hr E z i ≤ 57
    · obtain ⟨dc1, pt1, dg1, hM1, e1⟩ := md_step h hE hz q hbh hnd hM m an bi le us hn_ hp_ en ep hdc edc lc
      have hnd1 := nd_step0 (a := N) (d := (hr E z i - 48).toNat) (by omega)
      obtain ⟨m2, dc2, pt2, dg2, hm2, hM2, e2⟩ := md_loop h hE hz hbh bi le us hn_ hp_ en ep hdc edc lc d (i + 1) m _ _ (an + 1) dc1 pt1 dg1 (by omega) (by omega) (by omega) hM1
      have eD : dRun E z (d + 1) N i = dRun E z d (10 * N + (hr E z i - 48).toNat) (i + 1) := by
        show (if 48 ≤ hr E z i ∧ hr E z i ≤ 57 then _ else _) = _
        rw [if_pos q]
      rw [eD]
      have hb := dRun_b E z d (10 * N + (hr E z i - 48).toNat) (i + 1)
      generalize dRun E z d (10 * N + (hr E z i - 48).toNat) (i + 1) = R at *
      refine ⟨m2, dc2, pt2, dg2, by omega, ?_, ?_⟩
      · rw [show f + bh * (R.2 - i) = f + bh + bh * (R.2 - (i + 1)) by
          rw [show R.2 - i = (R.2 - (i + 1)) + 1 by omega, Nat.mul_add]; omega]
        exact hM2
      · rw [e1, e2, show an + 1 + ((R.2 - (i + 1) : Nat) : Int) = an + ((R.2 - i : Nat) : Int) by omega]
    · have eD : dRun E z (d + 1) N i = (N, i) := by
        show (if 48 ≤ hr E z i ∧ hr E z i ≤ 57 then _ else _) = _
        rw [if_neg q]
      rw [eD]
      refine ⟨m + 1, dc, pt, dg, ?_, ?_, ?_⟩
      · show m + 1 + (i - i) = m + 1; omega
      · show MS N (f + bh * (i - i)) dc pt dg
        rw [Nat.sub_self, Nat.mul_zero, Nat.add_zero]; exact hM
      · show _ = f_Md_decimal_14 (m + 1) (iI (an + (i - i : Nat))) (iI bh) (iI i) (iI z) tc dc pt bi le us hn_ hdc lc hp_ dg en edc ep
        rw [Nat.sub_self, show an + ((0 : Nat) : Int) = an by omega]
set_option maxRecDepth 10000 in
def pI (E : List Int32) (z i : Nat) : Nat × Nat := dRun E z (z - i) 0 i
set_option maxRecDepth 10000 in
abbrev pDot (E : List Int32) (z i : Nat) : Prop := hr E z (pI E z i).2 = 46
set_option maxRecDepth 10000 in
def pF (E : List Int32) (z i : Nat) : Nat × Nat := dRun E z (z - ((pI E z i).2 + 1)) (pI E z i).1 ((pI E z i).2 + 1)
set_option maxRecDepth 10000 in
def pN (E : List Int32) (z i : Nat) : Nat := if pDot E z i then (pF E z i).1 else (pI E z i).1
set_option maxRecDepth 10000 in
def pE (E : List Int32) (z i : Nat) : Nat := if pDot E z i then (pF E z i).2 else (pI E z i).2
set_option maxRecDepth 10000 in
def pf (E : List Int32) (z i : Nat) : Nat := if pDot E z i then (pF E z i).2 - ((pI E z i).2 + 1) else 0
set_option maxRecDepth 10000 in
def pA (E : List Int32) (z i : Nat) : Nat := (pI E z i).2 - i + pf E z i
set_option maxRecDepth 10000 in
theorem p_b {E : List Int32} {z i : Nat} (hi : i ≤ z) : i ≤ (pI E z i).2 ∧ (pI E z i).2 ≤ pE E z i ∧ pE E z i ≤ z ∧ nd (pN E z i) ≤ pE E z i ∧ pf E z i ≤ pE E z i ∧ (pDot E z i → (pI E z i).2 < z ∧ (pI E z i).2 + 1 ≤ (pF E z i).2 ∧ (pF E z i).2 ≤ z) ∧ nd (pI E z i).1 ≤ (pI E z i).2 := by
  have b1 := dRun_b E z (z - i) 0 i
  have n1 := dRun_nd E z (z - i) 0 i
  rw [nd_zero] at n1
  have b2 := dRun_b E z (z - ((pI E z i).2 + 1)) (pI E z i).1 ((pI E z i).2 + 1)
  have n2 := dRun_nd E z (z - ((pI E z i).2 + 1)) (pI E z i).1 ((pI E z i).2 + 1)
  have hI : pI E z i = dRun E z (z - i) 0 i := rfl
  rw [← hI] at b1 n1
  have hF : pF E z i = dRun E z (z - ((pI E z i).2 + 1)) (pI E z i).1 ((pI E z i).2 + 1) := rfl
  rw [← hF] at b2 n2
  unfold pE pN pf
  by_cases q : pDot E z i
  · have hl := hr_in (E := E) (z := z) (i := (pI E z i).2) (by unfold pDot at q; omega)
    rw [if_pos q, if_pos q, if_pos q]
    exact ⟨by omega, by omega, by omega, by omega, by omega, fun _ => by omega, by omega⟩
  · rw [if_neg q, if_neg q, if_neg q]
    exact ⟨by omega, by omega, by omega, by omega, by omega, fun w => absurd w q, by omega⟩
-- YL
set_option maxRecDepth 10000 in
theorem md211 {N : Nat} (hnd : nd N ≤ 65536) {dg : Nat → Int32} (hg : ∀ i, i < nd N → dg i = iI (digF N i)) (at_ z : Int32) (tc : Nat → Int32) (pt : Int64) (bi le us hn_ hp_ en ep : Int32) (hdc edc : Nat → Int32) (lc : Nat → Int64) :
    ∀ (k m : Nat), k ≤ nd N → k < m → (∀ i, k ≤ i → digF N i = 0) → ∃ t, isStrip (digF N) t ∧ t ≤ nd N ∧ f_Md_decimal_211 m at_ z tc (iI k) pt bi le us hn_ hdc lc hp_ dg en edc ep = f_Md_decimal_245 at_ z tc (iI t) pt bi le us hn_ hdc lc hp_ dg en edc ep
  | 0, m + 1, hk, hm, hz => by
    rw [f_Md_decimal_211, if_pos (show iI ((0 : Nat) : Int) ≤ 0 from by decide)]
    exact ⟨0, ⟨hz, fun q => absurd q (by omega)⟩, by omega, rfl⟩
  | k + 1, m + 1, hk, hm, hz => by
    have e1 : iI ((k + 1 : Nat) : Int) - 1 = iI k := by rw [show (1 : Int32) = iI 1 from rfl, iI_sub]; congr 1; omega
    rw [f_Md_decimal_211, if_neg (show ¬ iI ((k + 1 : Nat) : Int) ≤ 0 from by simp (disch := omega) only [iI_lit, iL_lit, iI_add, iI_sub, iI_mul, iI_neg, iL_add, iL_sub, iL_mul, iL_neg, iI_lt, iI_le, iI_eq, iL_lt, iL_le, iL_eqS, iI_c, iI_ok, iI_l, iL_i, iI_low, l_ushrI, l_shlI, l_shrI, i_shlI, i_shrI, i_ushrI, iI_div, iL_div, Int.toNat_natCast, Int.reduceToNat, iI_ofNat]; omega), e1, if_pos (show gx_ok (iI (k : Int)) 65536 = true from by simp (disch := omega) only [iI_lit, iL_lit, iI_add, iI_sub, iI_mul, iI_neg, iL_add, iL_sub, iL_mul, iL_neg, iI_lt, iI_le, iI_eq, iL_lt, iL_le, iL_eqS, iI_c, iI_ok, iI_l, iL_i, iI_low, l_ushrI, l_shlI, l_shrI, i_shlI, i_shrI, i_ushrI, iI_div, iL_div, Int.toNat_natCast, Int.reduceToNat, iI_ofNat]; omega), iI_c (by omega) (by omega), Int.toNat_natCast, hg k (by omega)]
    by_cases q : digF N k = 0
    · rw [if_pos (show iI (digF N k : Int) = 0 from by rw [q]; rfl)]
      exact md211 hnd hg at_ z tc pt bi le us hn_ hp_ en ep hdc edc lc k m (by omega) (by omega) (fun i hi => by
        by_cases w : i = k
        · rw [w]; exact q
        · exact hz i (by omega))
    · have := digF_le N k
      rw [if_neg (show ¬ iI (digF N k : Int) = 0 from by simp (disch := omega) only [iI_lit, iL_lit, iI_add, iI_sub, iI_mul, iI_neg, iL_add, iL_sub, iL_mul, iL_neg, iI_lt, iI_le, iI_eq, iL_lt, iL_le, iL_eqS, iI_c, iI_ok, iI_l, iL_i, iI_low, l_ushrI, l_shlI, l_shrI, i_shlI, i_shrI, i_ushrI, iI_div, iL_div, Int.toNat_natCast, Int.reduceToNat, iI_ofNat]; omega)]
      exact ⟨k + 1, ⟨hz, fun _ => q⟩, by omega, rfl⟩
set_option maxRecDepth 10000 in
def decR (s : Nat) (N : Nat) (p : Int) (r : Int) : Prop := 0 ≤ r ∧ r ≤ (2 ^ szK s - 1) * 2 ^ (szD s - 1) ∧ (N = 0 → r = 0) ∧ (0 < N → DEC s N p r)
set_option maxRecDepth 10000 in
theorem md_fin {s : Nat} (hs : s < 2) {N : Nat} (hnd : nd N ≤ 65536) {p : Int} (hp0 : -1000000000 ≤ p) (hp1 : p ≤ 1000000000) {dg : Nat → Int32} (hg : ∀ i, i < nd N → dg i = iI (digF N i)) (at_ z : Int32) (tc : Nat → Int32) (us hn_ hp_ en ep : Int32) (hdc edc : Nat → Int32) (lc : Nat → Int64) :
    ∃ r u1 u2 u3 u4 u5 u6 u7 u8 u9 u10 u11, f_Md_decimal_211 gx_fu at_ z tc (iI (nd N)) (iL p) (iI (szD s)) (iI (szL s)) us hn_ hdc lc hp_ dg en edc ep = some (iL r, at_, u1, u2, u3, u4, u5, u6, u7, u8, u9, u10, u11) ∧ decR s N p r := by
  have ib := inf_b hs
  obtain ⟨t, ht, htn, e⟩ := md211 hnd hg at_ z tc (iL p) (iI (szD s)) (iI (szL s)) us hn_ hp_ en ep hdc edc lc (nd N) gx_fu (Nat.le_refl _) (by have := fu_pos; omega) (fun i hi => digF_out hi)
  rw [e]
  unfold f_Md_decimal_245
  rcases Nat.eq_zero_or_pos N with hN | hN
  · have ht0 : t = 0 := by subst hN; rw [nd_zero] at htn; omega
    subst ht0
    rw [if_pos (show iI ((0 : Nat) : Int) = 0 from rfl)]
    exact ⟨0, _, _, _, _, _, _, _, _, _, _, _, rfl, by omega, by omega, fun _ => rfl, fun q => absurd q (by omega)⟩
  · have ht0 : 0 < t := by
      rcases Nat.eq_zero_or_pos t with q | q
      · exact absurd (ht.1 0 (by omega)) (digF_0 hN)
      · exact q
    rw [if_neg (show ¬ iI (t : Int) = 0 from by simp (disch := omega) only [iI_lit, iL_lit, iI_add, iI_sub, iI_mul, iI_neg, iL_add, iL_sub, iL_mul, iL_neg, iI_lt, iI_le, iI_eq, iL_lt, iL_le, iL_eqS, iI_c, iI_ok, iI_l, iL_i, iI_low, l_ushrI, l_shlI, l_shrI, i_shlI, i_shrI, i_ushrI, iI_div, iL_div, Int.toNat_natCast, Int.reduceToNat, iI_ofNat]; omega)]
    obtain ⟨r, u1, u2, u3, u4, u5, u6, u7, u8, e2, h1, h2, h3⟩ := nearest_spec hs hN ht hnd hp0 hp1 (dc := dg) (fun i hi => hg i (by omega)) us hn_ hp_ en ep hdc edc lc
    rw [e2, Option.bind_some]
    exact ⟨r, _, _, _, _, _, _, _, _, _, _, _, rfl, h2, h3, fun q => absurd q (by omega), fun _ => h1⟩
set_option maxRecDepth 10000 in
abbrev pX (E : List Int32) (z i : Nat) : Prop := hr E z (pE E z i) = 101 ∨ hr E z (pE E z i) = 69
set_option maxRecDepth 10000 in
abbrev pOK (E : List Int32) (z i : Nat) : Prop := pA E z i ≠ 0 ∧ (pX E z i → xBeg E z (pE E z i + 1) < xEnd E z (pE E z i + 1))
set_option maxRecDepth 10000 in
def pZ (E : List Int32) (z i : Nat) : Nat := if pX E z i then xEnd E z (pE E z i + 1) else pE E z i
set_option maxRecDepth 10000 in
def pXM (E : List Int32) (z i : Nat) : Int := if pX E z i then xM E z (pE E z i + 1) else 0
set_option maxRecDepth 10000 in
def pXC (E : List Int32) (z i : Nat) : Int := if pX E z i then xC E z (pE E z i + 1) else 0
set_option maxRecDepth 10000 in
theorem pX_in {E : List Int32} {z i : Nat} (h : pX E z i) : pE E z i < z := hr_in (E := E) (by unfold pX at h; omega)
set_option maxRecDepth 10000 in
theorem pZ_b {E : List Int32} {z i : Nat} (hi : i ≤ z) : pZ E z i ≤ z := by
  have := p_b (E := E) hi
  unfold pZ
  split
  · rename_i q
    have := xEnd_b (E := E) (show pE E z i + 1 ≤ z by have := pX_in q; omega)
    omega
  · omega
set_option maxRecDepth 10000 in
theorem md148 {s : Nat} (hs : s < 2) {t : Int32} {tc : Nat → Int32} {E : List Int32} (h : TP t tc E) (hE : E.length ≤ 65536) {z i : Nat} (hz : z ≤ E.length) (hi : i ≤ z) {dc : Int32} {pt : Int64} {dg : Nat → Int32} (hM : MS (pN E z i) (pf E z i) dc pt dg) (us hn_ hp_ en ep : Int32) (hdc edc : Nat → Int32) (lc : Nat → Int64) :
    ∃ r at' u1 u2 u3 u4 u5 u6 u7 u8 u9 u10 u11, f_Md_decimal_148 (iI (pA E z i)) (iI (pE E z i)) (iI z) tc dc pt (iI (szD s)) (iI (szL s)) us hn_ hdc lc hp_ dg en edc ep = some (iL r, iI (at' : Nat), u1, u2, u3, u4, u5, u6, u7, u8, u9, u10, u11) ∧ at' ≤ z ∧ (¬ pOK E z i → r = -1) ∧ (pOK E z i → at' = pZ E z i ∧ decR s (pN E z i) ((nd (pN E z i) : Int) - pf E z i + pXM E z i) r) := by
  obtain ⟨b1, b2, b3, b4, b5, b6, b7⟩ := p_b (E := E) hi
  obtain ⟨rfl, rfl, hg⟩ := hM
  unfold f_Md_decimal_148
  have hA : pA E z i ≤ 200000 := by unfold pA; omega
  by_cases q : pA E z i = 0
  · rw [if_pos (show iI (pA E z i : Int) = 0 from by rw [q]; rfl)]
    exact ⟨-1, pE E z i, _, _, _, _, _, _, _, _, _, _, _, rfl, b3, fun _ => rfl, fun w => absurd q w.1⟩
  · rw [if_neg (show ¬ iI (pA E z i : Int) = 0 from by simp (disch := omega) only [iI_lit, iL_lit, iI_add, iI_sub, iI_mul, iI_neg, iL_add, iL_sub, iL_mul, iL_neg, iI_lt, iI_le, iI_eq, iL_lt, iL_le, iL_eqS, iI_c, iI_ok, iI_l, iL_i, iI_low, l_ushrI, l_shlI, l_shrI, i_shlI, i_shrI, i_ushrI, iI_div, iL_div, Int.toNat_natCast, Int.reduceToNat, iI_ofNat]; omega)]
    rw [show (101 : Int32) = iI 101 from rfl, show (69 : Int32) = iI 69 from rfl, mdis_spec h hE hz (by omega) (by omega) (by omega), Option.bind_some, mdis_spec h hE hz (by omega) (by omega) (by omega), Option.bind_some]
    have h174 : pX E z i → ∃ r at' u1 u2 u3 u4 u5 u6 u7 u8 u9 u10 u11, f_Md_decimal_174 (iI (pE E z i)) (iI z) tc (iI (nd (pN E z i))) (iL ((nd (pN E z i) : Int) - pf E z i)) (iI (szD s)) (iI (szL s)) us hn_ hdc lc hp_ dg en edc ep = some (iL r, iI (at' : Nat), u1, u2, u3, u4, u5, u6, u7, u8, u9, u10, u11) ∧ at' ≤ z ∧ (¬ pOK E z i → r = -1) ∧ (pOK E z i → at' = pZ E z i ∧ decR s (pN E z i) ((nd (pN E z i) : Int) - pf E z i + pXM E z i) r) := by
      intro w
      have hl := pX_in w
      have hy := xEnd_b (E := E) (show pE E z i + 1 ≤ z by omega)
      obtain ⟨_, _, _, m0, m1, _⟩ := x_rel E z (pE E z i + 1)
      have ez : pZ E z i = xEnd E z (pE E z i + 1) := if_pos w
      have ex : pXM E z i = xM E z (pE E z i + 1) := if_pos w
      unfold f_Md_decimal_174
      rw [show iI (pE E z i : Int) + 1 = iI ((pE E z i + 1 : Nat) : Int) from by rw [show (1 : Int32) = iI 1 from rfl, iI_add]; rfl, mexp_spec h hE hz (by omega), Option.bind_some]
      by_cases v : xBeg E z (pE E z i + 1) < xEnd E z (pE E z i + 1)
      · rw [if_pos v, if_neg (show ¬ iL (xM E z (pE E z i + 1)) = (-9223372036854775808 : Int64) from by rw [show (-9223372036854775808 : Int64) = iL (-9223372036854775808) from rfl, iL_eqS (by omega) (by omega) (by omega) (by omega)]; omega)]
        dsimp only
        rw [iL_add]
        obtain ⟨r, u1, u2, u3, u4, u5, u6, u7, u8, u9, u10, u11, e, g⟩ := md_fin hs (N := pN E z i) (by omega) (p := (nd (pN E z i) : Int) - pf E z i + xM E z (pE E z i + 1)) (by omega) (by omega) hg (iI (xEnd E z (pE E z i + 1))) (iI z) tc us hn_ hp_ en ep hdc edc lc
        exact ⟨r, xEnd E z (pE E z i + 1), _, _, _, _, _, _, _, _, _, _, _, e, by omega, fun ww => absurd ⟨q, fun _ => v⟩ ww, fun _ => ⟨ez.symm, by rw [ex]; exact g⟩⟩
      · rw [if_neg v, if_pos rfl]
        exact ⟨-1, xEnd E z (pE E z i + 1), _, _, _, _, _, _, _, _, _, _, _, rfl, by omega, fun _ => rfl, fun ww => absurd (ww.2 w) v⟩
    by_cases w1 : hr E z (pE E z i) = 101
    · rw [if_pos w1, if_neg (show ¬ iI 1 = 0 from by decide)]
      exact h174 (Or.inl w1)
    · rw [if_neg w1, if_pos (show iI 0 = 0 from rfl)]
      by_cases w2 : hr E z (pE E z i) = 69
      · rw [if_pos w2, if_neg (show ¬ iI 1 = 0 from by decide)]
        exact h174 (Or.inr w2)
      · rw [if_neg w2, if_pos (show iI 0 = 0 from rfl)]
        have nx : ¬ pX E z i := fun w => by rcases w with w | w; exact w1 w; exact w2 w
        have ez : pZ E z i = pE E z i := if_neg nx
        have ex : pXM E z i = 0 := if_neg nx
        obtain ⟨r, u1, u2, u3, u4, u5, u6, u7, u8, u9, u10, u11, e, g⟩ := md_fin hs (N := pN E z i) (by omega) (p := (nd (pN E z i) : Int) - pf E z i) (by omega) (by omega) hg (iI (pE E z i)) (iI z) tc us hn_ hp_ en ep hdc edc lc
        exact ⟨r, pE E z i, _, _, _, _, _, _, _, _, _, _, _, e, b3, fun ww => absurd ⟨q, fun k => absurd k nx⟩ ww, fun _ => ⟨ez.symm, by rw [ex, Int.add_zero]; exact g⟩⟩
set_option maxRecDepth 10000 in
theorem mdecimal_spec {s : Nat} (hs : s < 2) {t : Int32} {tc : Nat → Int32} {E : List Int32} (h : TP t tc E) (hE : E.length ≤ 65536) {z i : Nat} (hz : z ≤ E.length) (hi : i ≤ z) (dc : Int32) (pt : Int64) (dg : Nat → Int32) (us hn_ hp_ en ep : Int32) (hdc edc : Nat → Int32) (lc : Nat → Int64) :
    ∃ r at' u1 u2 u3 u4 u5 u6 u7 u8 u9 u10 u11, f_Md_decimal (iI i) (iI z) tc dc pt (iI (szD s)) (iI (szL s)) us hn_ hdc lc hp_ dg en edc ep = some (iL r, iI (at' : Nat), u1, u2, u3, u4, u5, u6, u7, u8, u9, u10, u11) ∧ at' ≤ z ∧ (¬ pOK E z i → r = -1) ∧ (pOK E z i → at' = pZ E z i ∧ decR s (pN E z i) ((nd (pN E z i) : Int) - pf E z i + pXM E z i) r) := by
  obtain ⟨b1, b2, b3, b4, b5, b6, b7⟩ := p_b (E := E) hi
  have hfu := fu_pos
  unfold f_Md_decimal
  have hM0 : MS 0 0 (0 : Int32) (0 : Int64) dg := ⟨by rw [nd_zero]; rfl, by rw [nd_zero]; rfl, fun k hk => by rw [nd_zero] at hk; omega⟩
  obtain ⟨m1, dc1, pt1, dg1, hm1, hM1, e1⟩ := md_loop h hE hz (bh := 0) (by omega) (iI (szD s)) (iI (szL s)) us hn_ hp_ en ep hdc edc lc (z - i) i gx_fu 0 0 0 (0 : Int32) (0 : Int64) dg (by omega) (by omega) (by rw [nd_zero]; omega) hM0
  have nd1 := dRun_dig E z (z - i) 0 i (by omega)
  have eI : dRun E z (z - i) 0 i = pI E z i := rfl
  rw [eI] at hm1 hM1 e1 nd1
  rw [show (0 : Int32) = iI 0 from rfl] at e1 ⊢
  rw [show iI 0 = iI ((0 : Nat) : Int) from rfl] at e1 ⊢
  rw [e1]
  obtain ⟨m1, rfl⟩ : ∃ k, m1 = k + 1 := ⟨m1 - 1, by omega⟩
  rw [Nat.zero_mul, Nat.zero_add] at hM1
  rw [f_Md_decimal_14, mddig_spec h hE hz (by omega), Option.bind_some, if_neg nd1, if_pos (show iI 0 = 0 from rfl), show (46 : Int32) = iI 46 from rfl, mdis_spec h hE hz (by omega) (by omega) (by omega), Option.bind_some]
  by_cases q : pDot E z i
  · obtain ⟨c1, c2, c3⟩ := b6 q
    have q' : hr E z (pI E z i).2 = 46 := q
    rw [if_pos q', if_neg (show ¬ iI 1 = 0 from by decide), if_pos (show iI ((0 : Nat) : Int) = 0 from rfl)]
    unfold f_Md_decimal_34 f_Md_decimal_135
    rw [show (46 : Int32) = iI 46 from rfl, mdis_spec h hE hz (by omega) (by omega) (by omega), Option.bind_some, if_pos q', if_neg (show ¬ iI 1 = 0 from by decide)]
    rw [show iI ((pI E z i).2 : Int) + 1 = iI (((pI E z i).2 + 1 : Nat) : Int) from by rw [show (1 : Int32) = iI 1 from rfl, iI_add]; rfl]
    obtain ⟨m2, dc2, pt2, dg2, hm2, hM2, e2⟩ := md_loop h hE hz (bh := 1) (by omega) (iI (szD s)) (iI (szL s)) us hn_ hp_ en ep hdc edc lc (z - ((pI E z i).2 + 1)) ((pI E z i).2 + 1) m1 (pI E z i).1 0 (0 + ((pI E z i).2 - i : Nat)) dc1 pt1 dg1 (by omega) (by omega) (by omega) hM1
    have nd2 := dRun_dig E z (z - ((pI E z i).2 + 1)) (pI E z i).1 ((pI E z i).2 + 1) (by omega)
    have eF : dRun E z (z - ((pI E z i).2 + 1)) (pI E z i).1 ((pI E z i).2 + 1) = pF E z i := rfl
    rw [eF] at hm2 hM2 e2 nd2
    have eN : pN E z i = (pF E z i).1 := if_pos q
    have eE : pE E z i = (pF E z i).2 := if_pos q
    have ef : pf E z i = (pF E z i).2 - ((pI E z i).2 + 1) := if_pos q
    rw [Nat.one_mul, Nat.zero_add, ← ef, ← eN] at hM2
    dsimp only
    rw [show (1 : Int32) = iI ((1 : Nat) : Int) from rfl, e2]
    obtain ⟨m2, rfl⟩ : ∃ k, m2 = k + 1 := ⟨m2 - 1, by omega⟩
    rw [f_Md_decimal_14, mddig_spec h hE hz (by omega), Option.bind_some, if_neg nd2, if_pos (show iI 0 = 0 from rfl), show (46 : Int32) = iI 46 from rfl, mdis_spec h hE hz (by omega) (by omega) (by omega), Option.bind_some]
    have eA : (0 : Int) + ((pI E z i).2 - i : Nat) + ((pF E z i).2 - ((pI E z i).2 + 1) : Nat) = (pA E z i : Int) := by unfold pA; rw [ef]; omega
    rw [eA, ← eE]
    have fin := md148 hs h hE hz hi hM2 us hn_ hp_ en ep hdc edc lc
    by_cases w : hr E z (pE E z i) = 46
    · rw [if_pos w, if_neg (show ¬ iI 1 = 0 from by decide), if_neg (show ¬ iI ((1 : Nat) : Int) = 0 from by decide)]
      exact fin
    · rw [if_neg w, if_pos (show iI 0 = 0 from rfl)]
      exact fin
  · have q' : ¬ hr E z (pI E z i).2 = 46 := q
    rw [if_neg q', if_pos (show iI 0 = 0 from rfl)]
    have eN : pN E z i = (pI E z i).1 := if_neg q
    have eE : pE E z i = (pI E z i).2 := if_neg q
    have ef : pf E z i = 0 := if_neg q
    rw [← eN, ← ef] at hM1
    have eA : (0 : Int) + ((pI E z i).2 - i : Nat) = (pA E z i : Int) := by unfold pA; rw [ef]; omega
    rw [eA, ← eE]
    exact md148 hs h hE hz hi hM1 us hn_ hp_ en ep hdc edc lc
-- YM
set_option maxRecDepth 10000 in
theorem rd33 {n : Nat} (hn : n < 90000) {len over : Int32} {c : Nat → Int32} {E : List Int32} (h : BY n len over c E) (hE : E.length ≤ n) {z i : Nat} (hz : z ≤ E.length) (hi : i ≤ z) (ke ch un ns lo po : Int32) (nc : Nat → Int32) :
    ∃ at' : Nat, ∃ ex : Int, f_Rd_readDecimal_33 (iI (pA E z i)) n (iI (pE E z i)) (iI z) len c ke po ch un ns nc (iI 0) lo = some (iI (if pOK E z i then 1 else 0), iI at', ke, po, ch, un, ns, nc, iI ex, lo) ∧ at' ≤ z ∧ (pOK E z i → at' = pZ E z i ∧ ex = pXC E z i) := by
  obtain ⟨b1, b2, b3, b4, b5, b6, b7⟩ := p_b (E := E) hi
  unfold f_Rd_readDecimal_33
  have hA : pA E z i ≤ 200000 := by unfold pA; omega
  by_cases q : pA E z i = 0
  · rw [if_pos (show iI (pA E z i : Int) = 0 from by rw [q]; rfl), if_neg (fun w => absurd q w.1)]
    exact ⟨pE E z i, 0, rfl, b3, fun w => absurd q w.1⟩
  · rw [if_neg (show ¬ iI (pA E z i : Int) = 0 from by simp (disch := omega) only [iI_lit, iL_lit, iI_add, iI_sub, iI_mul, iI_neg, iL_add, iL_sub, iL_mul, iL_neg, iI_lt, iI_le, iI_eq, iL_lt, iL_le, iL_eqS, iI_c, iI_ok, iI_l, iL_i, iI_low, l_ushrI, l_shlI, l_shrI, i_shlI, i_shrI, i_ushrI, iI_div, iL_div, Int.toNat_natCast, Int.reduceToNat, iI_ofNat]; omega)]
    rw [show (101 : Int32) = iI 101 from rfl, show (69 : Int32) = iI 69 from rfl, sees_spec (by omega) h hE hz (by omega) (by omega) (by omega), Option.bind_some, sees_spec (by omega) h hE hz (by omega) (by omega) (by omega), Option.bind_some]
    have h57 : pX E z i → ∃ at' : Nat, ∃ ex : Int, f_Rd_readDecimal_57 n (iI (pE E z i)) (iI z) len c ke po ch un ns nc (iI 0) lo = some (iI (if pOK E z i then 1 else 0), iI at', ke, po, ch, un, ns, nc, iI ex, lo) ∧ at' ≤ z ∧ (pOK E z i → at' = pZ E z i ∧ ex = pXC E z i) := by
      intro w
      have hl := pX_in w
      have hy := xEnd_b (E := E) (show pE E z i + 1 ≤ z by omega)
      have ez : pZ E z i = xEnd E z (pE E z i + 1) := if_pos w
      have ex : pXC E z i = xC E z (pE E z i + 1) := if_pos w
      unfold f_Rd_readDecimal_57 f_Rd_readDecimal_64
      rw [readExponent_spec hn h hE hz hl, Option.bind_some]
      by_cases v : xBeg E z (pE E z i + 1) < xEnd E z (pE E z i + 1)
      · rw [if_pos v, if_neg (show ¬ iI 1 = 0 from by decide), if_pos (show pOK E z i from ⟨q, fun _ => v⟩)]
        exact ⟨_, _, rfl, by omega, fun _ => ⟨ez.symm, ex.symm⟩⟩
      · rw [if_neg v, if_pos (show iI 0 = 0 from rfl), if_neg (fun ww => absurd (ww.2 w) v)]
        exact ⟨_, _, rfl, by omega, fun ww => absurd (ww.2 w) v⟩
    by_cases w1 : hr E z (pE E z i) = 101
    · rw [if_pos w1, if_neg (show ¬ iI 1 = 0 from by decide)]
      exact h57 (Or.inl w1)
    · rw [if_neg w1, if_pos (show iI 0 = 0 from rfl)]
      by_cases w2 : hr E z (pE E z i) = 69
      · rw [if_pos w2, if_neg (show ¬ iI 1 = 0 from by decide)]
        exact h57 (Or.inr w2)
      · rw [if_neg w2, if_pos (show iI 0 = 0 from rfl)]
        have nx : ¬ pX E z i := fun w => by rcases w with w | w; exact w1 w; exact w2 w
        unfold f_Rd_readDecimal_64
        rw [if_pos (show pOK E z i from ⟨q, fun k => absurd k nx⟩)]
        exact ⟨_, _, rfl, b3, fun _ => ⟨(if_neg nx).symm, (if_neg nx).symm⟩⟩
set_option maxRecDepth 10000 in
theorem rdec_spec {n : Nat} (hn : n < 90000) {len over : Int32} {c : Nat → Int32} {E : List Int32} (h : BY n len over c E) (hE : E.length ≤ n) {z i : Nat} (hz : z ≤ E.length) (hi : i ≤ z) {ke ch un ns lo po : Int32} {nc : Nat → Int32} (hR : RS 0 0 ke ch un ns nc lo po) :
    ∃ at' : Nat, ∃ ex : Int, ∃ ke' po' ch' un' ns' nc' lo', f_Rd_readDecimal n (iI i) (iI z) len c ke po ch un ns nc (iI 0) lo = some (iI (if pOK E z i then 1 else 0), iI at', ke', po', ch', un', ns', nc', iI ex, lo') ∧ at' ≤ z ∧ RS (pN E z i) (pf E z i) ke' ch' un' ns' nc' lo' po' ∧ (pOK E z i → at' = pZ E z i ∧ ex = pXC E z i) := by
  obtain ⟨b1, b2, b3, b4, b5, b6, b7⟩ := p_b (E := E) hi
  unfold f_Rd_readDecimal
  obtain ⟨ke1, ch1, un1, ns1, nc1, lo1, po1, hR1, e1⟩ := readDigits_spec hn h hE hz (bh := 0) (by omega) hi (by rw [nd_zero]; omega) (by omega) hR
  have eI : dRun E z (z - i) 0 i = pI E z i := rfl
  rw [eI] at hR1 e1
  rw [Nat.zero_mul, Nat.zero_add] at hR1
  rw [show (0 : Int32) = iI ((0 : Nat) : Int) from rfl, e1, Option.bind_some]
  dsimp only
  rw [show (46 : Int32) = iI 46 from rfl, sees_spec (by omega) h hE hz (by omega) (by omega) (by omega), Option.bind_some]
  by_cases q : pDot E z i
  · obtain ⟨c1, c2, c3⟩ := b6 q
    have q' : hr E z (pI E z i).2 = 46 := q
    rw [if_pos q', if_neg (show ¬ iI 1 = iI ((0 : Nat) : Int) from by decide)]
    rw [show iI ((pI E z i).2 : Int) + 1 = iI (((pI E z i).2 + 1 : Nat) : Int) from by rw [show (1 : Int32) = iI 1 from rfl, iI_add]; rfl]
    obtain ⟨ke2, ch2, un2, ns2, nc2, lo2, po2, hR2, e2⟩ := readDigits_spec hn h hE hz (bh := 1) (by omega) (i := (pI E z i).2 + 1) (by omega) (by omega) (by omega) hR1
    have eF : dRun E z (z - ((pI E z i).2 + 1)) (pI E z i).1 ((pI E z i).2 + 1) = pF E z i := rfl
    rw [eF] at hR2 e2
    have eN : pN E z i = (pF E z i).1 := if_pos q
    have eE : pE E z i = (pF E z i).2 := if_pos q
    have ef : pf E z i = (pF E z i).2 - ((pI E z i).2 + 1) := if_pos q
    rw [Nat.one_mul, Nat.zero_add, ← ef, ← eN] at hR2
    rw [show (1 : Int32) = iI ((1 : Nat) : Int) from rfl, e2, Option.bind_some]
    dsimp only
    rw [iI_add]
    have eA : ((pI E z i).2 : Int) - i + (((pF E z i).2 : Int) - ((pI E z i).2 + 1 : Nat)) = (pA E z i : Int) := by unfold pA; rw [ef]; omega
    rw [eA, ← eE]
    obtain ⟨at', ex, e3, g1, g2⟩ := rd33 hn h hE hz hi ke2 ch2 un2 ns2 lo2 po2 nc2
    exact ⟨at', ex, _, _, _, _, _, _, _, e3, g1, hR2, g2⟩
  · have q' : ¬ hr E z (pI E z i).2 = 46 := q
    rw [if_neg q', if_pos (show iI 0 = iI ((0 : Nat) : Int) from rfl)]
    have eN : pN E z i = (pI E z i).1 := if_neg q
    have eE : pE E z i = (pI E z i).2 := if_neg q
    have ef : pf E z i = 0 := if_neg q
    rw [← eN, ← ef] at hR1
    have eA : ((pI E z i).2 : Int) - i = (pA E z i : Int) := by unfold pA; rw [ef]; omega
    rw [eA, ← eE]
    obtain ⟨at', ex, e3, g1, g2⟩ := rd33 hn h hE hz hi ke1 ch1 un1 ns1 lo1 po1 nc1
    exact ⟨at', ex, _, _, _, _, _, _, _, e3, g1, hR1, g2⟩
-- YN
set_option maxRecDepth 10000 in
theorem inf_shr {s : Nat} (hs : s < 2) : ((iL ((2 ^ szK s - 1) * 2 ^ (szD s - 1))).toUInt64 >>> ((iI (szD s) - 1).toInt64.toUInt64 &&& Int64.toUInt64 63)).toInt64 = iL (szG s - szL s + 2) := by
  have ib := inf_b hs
  have z := sz_p hs
  have g := szG_K hs
  rw [show (1 : Int32) = iI 1 from rfl, iI_sub, iI_l (by omega) (by omega), show (63 : Int64) = iL 63 from rfl, l_ushrI (by omega) (by omega) (by omega) (by omega), show ((szD s : Int) - 1).toNat = szD s - 1 by omega, Int.mul_ediv_cancel _ (by have := p2_pos (szD s - 1); omega), g.1]
set_option maxRecDepth 10000 in
theorem mr222 {s : Nat} (hs : s < 2) {q c : Int} (hq0 : szL s ≤ q) (hq1 : q ≤ 100000) (hc0 : 0 ≤ c) (hc1 : c < 2 ^ szD s) (hn : 2 ^ (szD s - 1) ≤ c ∨ q ≤ szG s) : f_Md_rounded_222 (iI q) (iL c) (iI (szD s)) (iI (szL s)) = some (iL (r92 s q c)) := by
  obtain ⟨z1, z2, z3, z4, z5, z6⟩ := sz_p hs
  have e2 := szD_2 hs
  have ib := inf_b hs
  have g := szG_K hs
  have hG : szG s ≤ 971 := by rcases sz_cases hs with h | h <;> omega
  unfold f_Md_rounded_222 r92
  rw [fraction_spec hs, inf_spec hs]
  simp only [Option.bind_some]
  rw [inf_shr hs]
  by_cases w : c < 2 ^ (szD s - 1)
  · rw [if_neg (show ¬ iL (2 ^ (szD s - 1) - 1) < iL c from by rw [iL_lt (by omega) (by omega) (by omega) (by omega)]; omega), if_pos (by omega), if_pos w]
  · rw [if_pos (show iL (2 ^ (szD s - 1) - 1) < iL c from by rw [iL_lt (by omega) (by omega) (by omega) (by omega)]; omega)]
    rw [show (1 : Int32) = iI 1 from rfl, iI_sub, iI_add, iI_sub, iI_l (by omega) (by omega), iI_l (by omega) (by omega)]
    by_cases v : q ≤ szG s
    · rw [if_pos (show iL (q - szL s + 1) < iL (szG s - szL s + 2) from by rw [iL_lt (by omega) (by omega) (by omega) (by omega)]; omega), if_pos v, if_neg w]
      have hr := Int.emod_nonneg c (show (2 : Int) ^ (szD s - 1) ≠ 0 by omega)
      have hr1 := Int.emod_lt_of_pos c (show (0 : Int) < 2 ^ (szD s - 1) by omega)
      have hmul : (q - szL s + 1) * 2 ^ (szD s - 1) ≤ 2047 * 4503599627370496 := Int.mul_le_mul (by omega) z1 (by omega) (by omega)
      rw [show (63 : Int64) = iL 63 from rfl, l_shlI (by omega) (by omega), show ((szD s : Int) - 1).toNat = szD s - 1 by omega, iL_mask hc0 (by omega) (by omega), iL_orK (szD s - 1) (by omega) hr hr1 (by omega)]
    · rw [if_neg (show ¬ iL (q - szL s + 1) < iL (szG s - szL s + 2) from by rw [iL_lt (by omega) (by omega) (by omega) (by omega)]; omega), if_neg v]
set_option maxRecDepth 10000 in
theorem mr197 {s : Nat} (hs : s < 2) {q c : Int} (hq0 : szL s ≤ q) (hq1 : q ≤ 90000) (hc0 : 0 ≤ c) (hc1 : c ≤ 2 ^ szD s) (hn : 2 ^ (szD s - 1) ≤ c ∨ q ≤ szG s) : f_Md_rounded_197 (iI q) (iL c) (iI (szD s)) (iI (szL s)) = some (iL (r69 s q c)) := by
  obtain ⟨z1, z2, z3, z4, z5, z6⟩ := sz_p hs
  have e2 := szD_2 hs
  unfold f_Md_rounded_197 r69
  rw [fraction_spec hs, Option.bind_some, show (2 : Int64) = iL 2 from rfl, show (1 : Int64) = iL 1 from rfl, iL_mul, iL_add]
  by_cases w : c < 2 ^ szD s
  · rw [if_pos (show iL c ≤ iL (2 * (2 ^ (szD s - 1) - 1) + 1) from by rw [iL_le (by omega) (by omega) (by omega) (by omega)]; omega), if_pos w]
    exact mr222 hs hq0 (by omega) hc0 w hn
  · rw [if_neg (show ¬ iL c ≤ iL (2 * (2 ^ (szD s - 1) - 1) + 1) from by rw [iL_le (by omega) (by omega) (by omega) (by omega)]; omega), if_neg w]
    rw [show (1 : Int32).toInt64 = iL 1 from rfl, show (1 : Int32) = iI 1 from rfl, show (63 : Int64) = iL 63 from rfl, l_shrI (by omega) (by omega) (by omega) (by omega), iI_add, show (2 : Int) ^ (1 : Int).toNat = 2 from rfl]
    exact mr222 hs (by omega) (by omega) (by omega) (by omega) (by omega)
set_option maxRecDepth 10000 in
def mrV (s : Nat) (m t q : Int) (n : Nat) (mo : Int) : Int :=
  if q - t ≤ 0 then r69 s q (m * 2 ^ (t - q).toNat) else if (n : Int) < q - t then r69 s q 0 else
  r69 s q (m / 2 ^ (q - t).toNat + (if 2 ^ (q - t - 1).toNat < m % 2 ^ (q - t).toNat ∨ (m % 2 ^ (q - t).toNat = 2 ^ (q - t - 1).toNat ∧ (mo ≠ 0 ∨ m / 2 ^ (q - t).toNat % 2 = 1)) then 1 else 0))
set_option maxRecDepth 10000 in
theorem mr79a {s : Nat} (hs : s < 2) {m t q mo : Int} {n : Nat} (h0 : 0 < m) (hb : isBL m n) (hn62 : n ≤ 62) (hq : q = max (t + n - szD s) (szL s)) (ht0 : -6000 ≤ t) (ht1 : t ≤ 6000) (hmo : mo = 0 ∨ mo = 1) (hdr : q - t ≤ 0 → mo = 0) (d0 : q - t ≤ 0) : f_Md_rounded_79 (iL m) (iL t) (iI mo) (iI n) (iI q) (iI (szD s)) (iI (szL s)) = some (iL (mrV s m t q n mo)) := by
  obtain ⟨z1, z2, z3, z4, z5, z6⟩ := sz_p hs
  have e2 := szD_2 hs
  have hnp := bl_pos hb h0
  have hm62 : m < 4611686018427387904 := by
    have a1 := hb.1
    have a2 : (2 : Int) ^ n ≤ 2 ^ 62 := p2_mono hn62
    rw [show (2 : Int) ^ 62 = 4611686018427387904 from by decide] at a2
    omega
  have gl := szGL hs
  unfold f_Md_rounded_79 mrV
  rw [iL_i, iI_sub]
  rw [if_neg (show ¬ (0 : Int32) < iI (q - t) from by simp (disch := omega) only [iI_lit, iL_lit, iI_add, iI_sub, iI_mul, iI_neg, iL_add, iL_sub, iL_mul, iL_neg, iI_lt, iI_le, iI_eq, iL_lt, iL_le, iL_eqS, iI_c, iI_ok, iI_l, iL_i, iI_low, l_ushrI, l_shlI, l_shrI, i_shlI, i_shrI, i_ushrI, iI_div, iL_div, Int.toNat_natCast, Int.reduceToNat, iI_ofNat]; omega), if_pos d0, iI_neg, iI_l (by omega) (by omega), show (63 : Int64) = iL 63 from rfl, l_shlI (by omega) (by omega), show (-(q - t)).toNat = (t - q).toNat by omega]
  have hc1 : m * 2 ^ (t - q).toNat < 2 ^ szD s := by
    have a1 := Int.mul_lt_mul_of_pos_right hb.1 (p2_pos (t - q).toNat)
    have a2 : (2 : Int) ^ (n + (t - q).toNat) ≤ 2 ^ szD s := p2_mono (by omega)
    rw [← p2_add] at a2
    omega
  have hn' : 2 ^ (szD s - 1) ≤ m * 2 ^ (t - q).toNat ∨ q ≤ szG s := by
    by_cases r : q = szL s
    · exact Or.inr (by omega)
    · refine Or.inl ?_
      have a1 := Int.mul_le_mul_of_nonneg_right (hb.2 hnp) (show (0 : Int) ≤ 2 ^ (t - q).toNat from Int.le_of_lt (p2_pos _))
      rw [p2_add, show n - 1 + (t - q).toNat = szD s - 1 by omega] at a1
      exact a1
  exact mr197 hs (by omega) (by omega) (Int.mul_nonneg (by omega) (Int.le_of_lt (p2_pos _))) (by omega) hn'
set_option maxRecDepth 10000 in
theorem mr79b {s : Nat} (hs : s < 2) {m t q mo : Int} {n : Nat} (h0 : 0 < m) (hb : isBL m n) (hn62 : n ≤ 62) (hq : q = max (t + n - szD s) (szL s)) (ht0 : -6000 ≤ t) (ht1 : t ≤ 6000) (hmo : mo = 0 ∨ mo = 1) (hdr : q - t ≤ 0 → mo = 0) (d0 : ¬ q - t ≤ 0) (d1 : (n : Int) < q - t) : f_Md_rounded_79 (iL m) (iL t) (iI mo) (iI n) (iI q) (iI (szD s)) (iI (szL s)) = some (iL (mrV s m t q n mo)) := by
  obtain ⟨z1, z2, z3, z4, z5, z6⟩ := sz_p hs
  have e2 := szD_2 hs
  have hnp := bl_pos hb h0
  have hm62 : m < 4611686018427387904 := by
    have a1 := hb.1
    have a2 : (2 : Int) ^ n ≤ 2 ^ 62 := p2_mono hn62
    rw [show (2 : Int) ^ 62 = 4611686018427387904 from by decide] at a2
    omega
  have gl := szGL hs
  unfold f_Md_rounded_79 mrV
  rw [iL_i, iI_sub, if_pos (show (0 : Int32) < iI (q - t) from by simp (disch := omega) only [iI_lit, iL_lit, iI_add, iI_sub, iI_mul, iI_neg, iL_add, iL_sub, iL_mul, iL_neg, iI_lt, iI_le, iI_eq, iL_lt, iL_le, iL_eqS, iI_c, iI_ok, iI_l, iL_i, iI_low, l_ushrI, l_shlI, l_shrI, i_shlI, i_shrI, i_ushrI, iI_div, iL_div, Int.toNat_natCast, Int.reduceToNat, iI_ofNat]; omega), if_neg d0]
  rw [if_neg (show ¬ iI (q - t) ≤ iI n from by simp (disch := omega) only [iI_lit, iL_lit, iI_add, iI_sub, iI_mul, iI_neg, iL_add, iL_sub, iL_mul, iL_neg, iI_lt, iI_le, iI_eq, iL_lt, iL_le, iL_eqS, iI_c, iI_ok, iI_l, iL_i, iI_low, l_ushrI, l_shlI, l_shrI, i_shlI, i_shrI, i_ushrI, iI_div, iL_div, Int.toNat_natCast, Int.reduceToNat, iI_ofNat]; omega), if_pos d1]
  rw [show (0 : Int64) = iL 0 from rfl]
  exact mr197 hs (c := 0) (by omega) (by omega) (Int.le_refl _) (Int.le_of_lt (p2_pos _)) (Or.inr (by omega))
set_option maxRecDepth 10000 in
theorem mr79c {s : Nat} (hs : s < 2) {m t q mo : Int} {n : Nat} (h0 : 0 < m) (hb : isBL m n) (hn62 : n ≤ 62) (hq : q = max (t + n - szD s) (szL s)) (ht0 : -6000 ≤ t) (ht1 : t ≤ 6000) (hmo : mo = 0 ∨ mo = 1) (hdr : q - t ≤ 0 → mo = 0) (d0 : ¬ q - t ≤ 0) (d1 : ¬ (n : Int) < q - t) : f_Md_rounded_79 (iL m) (iL t) (iI mo) (iI n) (iI q) (iI (szD s)) (iI (szL s)) = some (iL (mrV s m t q n mo)) := by
  obtain ⟨z1, z2, z3, z4, z5, z6⟩ := sz_p hs
  have e2 := szD_2 hs
  have hnp := bl_pos hb h0
  have hm62 : m < 4611686018427387904 := by
    have a1 := hb.1
    have a2 : (2 : Int) ^ n ≤ 2 ^ 62 := p2_mono hn62
    rw [show (2 : Int) ^ 62 = 4611686018427387904 from by decide] at a2
    omega
  have gl := szGL hs
  unfold f_Md_rounded_79 mrV
  rw [iL_i, iI_sub, if_pos (show (0 : Int32) < iI (q - t) from by simp (disch := omega) only [iI_lit, iL_lit, iI_add, iI_sub, iI_mul, iI_neg, iL_add, iL_sub, iL_mul, iL_neg, iI_lt, iI_le, iI_eq, iL_lt, iL_le, iL_eqS, iI_c, iI_ok, iI_l, iL_i, iI_low, l_ushrI, l_shlI, l_shrI, i_shlI, i_shrI, i_ushrI, iI_div, iL_div, Int.toNat_natCast, Int.reduceToNat, iI_ofNat]; omega), if_neg d0]
  rw [if_pos (show iI (q - t) ≤ iI n from by simp (disch := omega) only [iI_lit, iL_lit, iI_add, iI_sub, iI_mul, iI_neg, iL_add, iL_sub, iL_mul, iL_neg, iI_lt, iI_le, iI_eq, iL_lt, iL_le, iL_eqS, iI_c, iI_ok, iI_l, iL_i, iI_low, l_ushrI, l_shlI, l_shrI, i_shlI, i_shrI, i_ushrI, iI_div, iL_div, Int.toNat_natCast, Int.reduceToNat, iI_ofNat]; omega), if_neg d1, if_pos (show iI (q - t) ≤ 63 from by simp (disch := omega) only [iI_lit, iL_lit, iI_add, iI_sub, iI_mul, iI_neg, iL_add, iL_sub, iL_mul, iL_neg, iI_lt, iI_le, iI_eq, iL_lt, iL_le, iL_eqS, iI_c, iI_ok, iI_l, iL_i, iI_low, l_ushrI, l_shlI, l_shrI, i_shlI, i_shrI, i_ushrI, iI_div, iL_div, Int.toNat_natCast, Int.reduceToNat, iI_ofNat]; omega)]
  rw [iI_l (by omega) (by omega), show (63 : Int64) = iL 63 from rfl, l_ushrI (by omega) (by omega) (by omega) (by omega)]
  generalize hdd : (q - t).toNat = d at *
  have hd1 : 1 ≤ d := by omega
  have hP := p2_pos d
  have hPe : (2 : Int) ^ d = 2 * 2 ^ (q - t - 1).toNat := by
    rw [show d = (q - t - 1).toNat + 1 by omega, Int.pow_succ, Int.mul_comm]
  have hPm : (2 : Int) ^ d ≤ 2 ^ 62 := p2_mono (by omega)
  rw [show (2 : Int) ^ 62 = 4611686018427387904 from by decide] at hPm
  have hdm := Int.mul_ediv_add_emod m (2 ^ d)
  have hr0 := Int.emod_nonneg m (show (2 : Int) ^ d ≠ 0 by omega)
  have hr1 := Int.emod_lt_of_pos m hP
  have hc0 : 0 ≤ m / 2 ^ d := Int.ediv_nonneg (by omega) (by omega)
  have hcle : m / 2 ^ d ≤ m := Int.ediv_le_self _ (by omega)
  have hcD : m / 2 ^ d < 2 ^ szD s := bl_div hb (by omega)
  have hn' : 2 ^ (szD s - 1) ≤ m / 2 ^ d ∨ q ≤ szG s := by
    by_cases r : q = szL s
    · exact Or.inr (by omega)
    · exact Or.inl (bl_div2 hb (by omega) (by omega))
  unfold f_Md_rounded_131 f_Md_rounded_150 f_Md_rounded_191
  rw [if_pos (show iI (q - t) ≤ 63 from by simp (disch := omega) only [iI_lit, iL_lit, iI_add, iI_sub, iI_mul, iI_neg, iL_add, iL_sub, iL_mul, iL_neg, iI_lt, iI_le, iI_eq, iL_lt, iL_le, iL_eqS, iI_c, iI_ok, iI_l, iL_i, iI_low, l_ushrI, l_shlI, l_shrI, i_shlI, i_shrI, i_ushrI, iI_div, iL_div, Int.toNat_natCast, Int.reduceToNat, iI_ofNat]; omega), iI_l (by omega) (by omega), show (63 : Int64) = iL 63 from rfl, l_shlI (by omega) (by omega), hdd, iL_sub]
  rw [show (1 : Int32) = iI 1 from rfl, iI_sub, iI_l (by omega) (by omega), show (1 : Int64) = iL 1 from rfl, l_shlI (by omega) (by omega), Int.one_mul, one_and hc0 (by omega), iL_add]
  have er : m - m / 2 ^ d * 2 ^ d = m % 2 ^ d := by rw [Int.mul_comm]; omega
  rw [er]
  have u0 := mr197 hs (q := q) (c := m / 2 ^ d) (by omega) (by omega) hc0 (by omega) hn'
  have u1 := mr197 hs (q := q) (c := m / 2 ^ d + 1) (by omega) (by omega) (by omega) (by omega) (by omega)
  have hH := p2_pos (q - t - 1).toNat
  have c1 : (iL (2 ^ (q - t - 1).toNat) < iL (m % 2 ^ d)) = (2 ^ (q - t - 1).toNat < m % 2 ^ d) := iL_lt (by omega) (by omega) (by omega) (by omega)
  have c2 : (iL (m % 2 ^ d) = iL (2 ^ (q - t - 1).toNat)) = (m % 2 ^ d = 2 ^ (q - t - 1).toNat) := iL_eqU (by omega) (by omega) (by omega) (by omega)
  have c3 : (iL (m / 2 ^ d % 2) = iL 1) = (m / 2 ^ d % 2 = 1) := iL_eqU (by omega) (by omega) (by omega) (by omega)
  simp only [c1, c2, c3]
  generalize m / 2 ^ d = C at *
  generalize m % 2 ^ d = R at *
  generalize (2 : Int) ^ (q - t - 1).toNat = H at *
  by_cases k1 : H < R
  · rw [if_pos k1, if_pos (Or.inl k1)]; exact u1
  · rw [if_neg k1]
    by_cases k2 : R = H
    · rw [if_pos k2]
      rcases hmo with rfl | rfl
      · rw [if_pos (show iI 0 = 0 from rfl)]
        by_cases k3 : C % 2 = 1
        · rw [if_pos k3, if_pos (Or.inr ⟨k2, Or.inr k3⟩)]; exact u1
        · rw [if_neg k3, if_neg (by omega), Int.add_zero]; exact u0
      · rw [if_neg (show ¬ iI 1 = 0 from by decide), if_pos (Or.inr ⟨k2, Or.inl (by decide)⟩)]; exact u1
    · rw [if_neg k2, if_neg (by omega), Int.add_zero]; exact u0
set_option maxRecDepth 10000 in
theorem mr79 {s : Nat} (hs : s < 2) {m t q mo : Int} {n : Nat} (h0 : 0 < m) (hb : isBL m n) (hn62 : n ≤ 62) (hq : q = max (t + n - szD s) (szL s)) (ht0 : -6000 ≤ t) (ht1 : t ≤ 6000) (hmo : mo = 0 ∨ mo = 1) (hdr : q - t ≤ 0 → mo = 0) : f_Md_rounded_79 (iL m) (iL t) (iI mo) (iI n) (iI q) (iI (szD s)) (iI (szL s)) = some (iL (mrV s m t q n mo)) := by
  by_cases d0 : q - t ≤ 0
  · exact mr79a hs h0 hb hn62 hq ht0 ht1 hmo hdr d0
  · by_cases d1 : (n : Int) < q - t
    · exact mr79b hs h0 hb hn62 hq ht0 ht1 hmo hdr d0 d1
    · exact mr79c hs h0 hb hn62 hq ht0 ht1 hmo hdr d0 d1
