-- YX
set_option maxRecDepth 10000 in
theorem tcq {t : Int32} {tc : Nat → Int32} {E : List Int32} (h : TP t tc E) {z i : Nat} (hz : z ≤ E.length) (hi : i < z) {k : Int} (k0 : 0 ≤ k) (k1 : k < 128) : (tc i = iI k) = (hr E z i = k) := by
  obtain ⟨a, a0, a1, e, ea⟩ := tp_at h (show i < E.length by omega)
  have eh : hr E z i = ubAt E i := if_pos hi
  rw [e, eh, ea, iI_eq (by omega) (by omega) (by omega) (by omega)]
  apply propext
  split <;> omega
set_option maxRecDepth 10000 in
theorem no_dec {E : List Int32} {z i : Nat} (h1 : ¬ (48 ≤ hr E z i ∧ hr E z i ≤ 57)) (h2 : ¬ hr E z i = 46) : ¬ pOK E z i := by
  have e : pI E z i = (0, i) := by
    unfold pI
    cases z - i with
    | zero => rfl
    | succ d => unfold dRun; rw [if_neg h1]
  intro w
  apply w.1
  unfold pA pf
  have : ¬ pDot E z i := by unfold pDot; rw [e]; exact h2
  rw [if_neg this, e]
  omega
set_option maxRecDepth 10000 in
theorem wN_hd {E : List Int32} {z i : Nat} (h : wAt E z wN i) : hr E z i = 78 := (wAt_cons (w := [97, 78]).mp h).1
set_option maxRecDepth 10000 in
theorem wI_hd {E : List Int32} {z i : Nat} (h : wAt E z wI i) : hr E z i = 73 := (wAt_cons (w := [110, 102, 105, 110, 105, 116, 121]).mp h).1
set_option maxRecDepth 10000 in
theorem wAt2 {E : List Int32} {z i : Nat} {a b : Int} : wAt E z [a, b] i ↔ (hr E z i = a ∧ hr E z (i + 1) = b) := wAt_cons.trans (and_congr Iff.rfl (wAt_cons.trans ⟨fun y => y.1, fun y => ⟨y, rfl⟩⟩))
set_option maxRecDepth 10000 in
theorem hexP_hd {E : List Int32} {z i : Nat} (h : hexP E z i) : hr E z i = 48 := by rcases h with h | h; exact ((wAt2 (a := 48) (b := 120)).mp h).1; exact ((wAt2 (a := 48) (b := 88)).mp h).1
set_option maxRecDepth 10000 in
theorem hexP_eq {E : List Int32} {z i : Nat} : hexP E z i = (hr E z i = 48 ∧ (hr E z (i + 1) = 120 ∨ hr E z (i + 1) = 88)) := by
  apply propext
  constructor
  · intro h
    rcases h with h | h
    · exact ⟨((wAt2 (a := 48) (b := 120)).mp h).1, Or.inl ((wAt2 (a := 48) (b := 120)).mp h).2⟩
    · exact ⟨((wAt2 (a := 48) (b := 88)).mp h).1, Or.inr ((wAt2 (a := 48) (b := 88)).mp h).2⟩
  · intro h
    rcases h.2 with w | w
    · exact Or.inl ((wAt2 (a := 48) (b := 120)).mpr ⟨h.1, w⟩)
    · exact Or.inr ((wAt2 (a := 48) (b := 88)).mpr ⟨h.1, w⟩)
set_option maxRecDepth 10000 in
def MR (E : List Int32) (z i s : Nat) (sg v : Int) : Prop :=
  if wAt E z wN i then v = (2 ^ szK s - 1) * 2 ^ (szD s - 1) + 2 ^ (szD s - 2) else ∃ g, v = sg + g ∧ 0 ≤ g ∧ g ≤ (2 ^ szK s - 1) * 2 ^ (szD s - 1) ∧ (if wAt E z wI i then g = (2 ^ szK s - 1) * 2 ^ (szD s - 1) else if hexP E z i then hexR s (qN E z (i + 2)) (xM E z (qE E z (i + 2) + 1) - 4 * (qf E z (i + 2) : Int)) g else decR s (pN E z i) ((nd (pN E z i) : Int) - pf E z i + pXM E z i) g)
set_option maxRecDepth 10000 in
def mvP (E : List Int32) (z i s : Nat) (sg : Int) (tp : Int32) (x : Option (Int64 × Int32 × Int32 × Int32 × Int32 × Int64 × Int32 × Int32 × (Nat → Int32) × (Nat → Int64) × Int32 × (Nat → Int32) × Int32 × (Nat → Int32) × Int32 × Int32)) : Prop :=
  ∃ v co u1 u2 u3 u4 u5 u6 u7 u8 u9 u10 u11 u12 u13, x = some (iL v, tp, u1, u2, u3, u4, u5, u6, u7, u8, u9, u10, u11, u12, u13, iI co) ∧ (¬ okP E z i → v = 0 ∧ co = 1) ∧ (okP E z i → co = 0 ∧ MR E z i s sg v)
set_option maxRecDepth 10000 in
theorem or_sg {s : Nat} (hs : s < 2) {sg g : Int} (hsg : sg = 0 ∨ sg = 2 ^ szS s) (h0 : 0 ≤ g) (h1 : g ≤ (2 ^ szK s - 1) * 2 ^ (szD s - 1)) : iL sg ||| iL g = iL (sg + g) := by
  have hS : szS s < 64 ∧ (2 ^ szK s - 1) * 2 ^ (szD s - 1) < (2 : Int) ^ szS s ∧ (2 : Int) ^ szS s ≤ 9223372036854775808 := by
    rcases sz_cases hs with h | h
    · obtain ⟨_, h1, h2, h3, h4, h5⟩ := h; rw [h1, h4, h5]; decide
    · obtain ⟨_, h1, h2, h3, h4, h5⟩ := h; rw [h1, h4, h5]; decide
  rcases hsg with rfl | rfl
  · have := iL_orK (a := 0) (b := g) (szS s) (by omega) h0 (by omega) (by omega)
    rwa [Int.zero_mul] at this
  · have := iL_orK (a := 1) (b := g) (szS s) (by omega) h0 (by omega) (by omega)
    rwa [Int.one_mul] at this
set_option maxRecDepth 10000 in
theorem mv282 {t : Int32} {tc : Nat → Int32} {E : List Int32} (h : TP t tc E) (hE : E.length ≤ 65536) {z a : Nat} (hz : z ≤ E.length) (ha : a ≤ z) (v2 v5 : Int64) (tp dc bi le us hn_ hp_ en ep co : Int32) (pt : Int64) (hdc edc dg : Nat → Int32) (lc : Nat → Int64) :
    f_Md_value_282 v2 v5 tp (iI a) (iI z) tc dc pt bi le us hn_ hdc lc hp_ dg en edc ep co = f_Md_value_361 v2 v5 tp (iI (sfx E z a)) (iI z) tc dc pt bi le us hn_ hdc lc hp_ dg en edc ep co := by
  unfold f_Md_value_282 f_Md_value_351 sfx
  have e1 : iI (a : Int) + 1 = iI ((a + 1 : Nat) : Int) := by rw [show (1 : Int32) = iI 1 from rfl, iI_add]; rfl
  rw [e1]
  by_cases q : a < z
  · have hok : gx_ok (iI (a : Int)) 65536 = true := by simp (disch := omega) only [iI_lit, iL_lit, iI_add, iI_sub, iI_mul, iI_neg, iL_add, iL_sub, iL_mul, iL_neg, iI_lt, iI_le, iI_eq, iL_lt, iL_le, iL_eqS, iI_c, iI_ok, iI_l, iL_i, iI_low, l_ushrI, l_shlI, l_shrI, i_shlI, i_shrI, i_ushrI, iI_div, iL_div, Int.toNat_natCast, Int.reduceToNat, iI_ofNat]; omega
    rw [if_neg (show ¬ iI (z : Int) ≤ iI a from by simp (disch := omega) only [iI_lit, iL_lit, iI_add, iI_sub, iI_mul, iI_neg, iL_add, iL_sub, iL_mul, iL_neg, iI_lt, iI_le, iI_eq, iL_lt, iL_le, iL_eqS, iI_c, iI_ok, iI_l, iL_i, iI_low, l_ushrI, l_shlI, l_shrI, i_shlI, i_shrI, i_ushrI, iI_div, iL_div, Int.toNat_natCast, Int.reduceToNat, iI_ofNat]; omega), if_pos hok, if_pos hok, if_pos hok, if_pos hok, iI_c (by omega) (by omega), Int.toNat_natCast]
    rw [show (102 : Int32) = iI 102 from rfl, show (70 : Int32) = iI 70 from rfl, show (100 : Int32) = iI 100 from rfl, show (68 : Int32) = iI 68 from rfl]
    simp only [tcq h hz q (show (0 : Int) ≤ 102 by omega) (show (102 : Int) < 128 by omega), tcq h hz q (show (0 : Int) ≤ 70 by omega) (show (70 : Int) < 128 by omega), tcq h hz q (show (0 : Int) ≤ 100 by omega) (show (100 : Int) < 128 by omega), tcq h hz q (show (0 : Int) ≤ 68 by omega) (show (68 : Int) < 128 by omega)]
    by_cases q1 : hr E z a = 102
    · rw [if_pos q1, if_pos (Or.inl q1)]
    · rw [if_neg q1]
      by_cases q2 : hr E z a = 70
      · rw [if_pos q2, if_pos (Or.inr (Or.inl q2))]
      · rw [if_neg q2]
        by_cases q3 : hr E z a = 100
        · rw [if_pos q3, if_pos (Or.inr (Or.inr (Or.inl q3)))]
        · rw [if_neg q3]
          by_cases q4 : hr E z a = 68
          · rw [if_pos q4, if_pos (Or.inr (Or.inr (Or.inr q4)))]
          · rw [if_neg q4, if_neg (by omega)]
  · have : hr E z a = -1 := if_neg q
    rw [if_pos (show iI (z : Int) ≤ iI a from by simp (disch := omega) only [iI_lit, iL_lit, iI_add, iI_sub, iI_mul, iI_neg, iL_add, iL_sub, iL_mul, iL_neg, iI_lt, iI_le, iI_eq, iL_lt, iL_le, iL_eqS, iI_c, iI_ok, iI_l, iL_i, iI_low, l_ushrI, l_shlI, l_shrI, i_shlI, i_shrI, i_ushrI, iI_div, iL_div, Int.toNat_natCast, Int.reduceToNat, iI_ofNat]; omega), if_neg (by omega)]
set_option maxRecDepth 10000 in
theorem mv361 {E : List Int32} {z i s : Nat} (hs : s < 2) {sg : Int} (hsg : sg = 0 ∨ sg = 2 ^ szS s) {tc : Nat → Int32} {a : Nat} (ha : a ≤ z) (hz : z ≤ 65536) {r : Int} (tp dc bi le us hn_ hp_ en ep : Int32) (pt : Int64) (hdc edc dg : Nat → Int32) (lc : Nat → Int64)
    (hr0 : r = -1 ∨ (0 ≤ r ∧ r ≤ (2 ^ szK s - 1) * 2 ^ (szD s - 1))) (hok : okP E z i ↔ (0 ≤ r ∧ a = z)) (hM : okP E z i → MR E z i s sg (sg + r)) :
    mvP E z i s sg tp (f_Md_value_361 (iL sg) (iL r) tp (iI a) (iI z) tc dc pt bi le us hn_ hdc lc hp_ dg en edc ep (0 : Int32)) := by
  have ib := inf_b hs
  unfold f_Md_value_361 f_Md_value_379 mvP
  by_cases q : r < 0
  · rw [if_pos (show iL r < 0 from by simp (disch := omega) only [iI_lit, iL_lit, iI_add, iI_sub, iI_mul, iI_neg, iL_add, iL_sub, iL_mul, iL_neg, iI_lt, iI_le, iI_eq, iL_lt, iL_le, iL_eqS, iI_c, iI_ok, iI_l, iL_i, iI_low, l_ushrI, l_shlI, l_shrI, i_shlI, i_shrI, i_ushrI, iI_div, iL_div, Int.toNat_natCast, Int.reduceToNat, iI_ofNat]; omega)]
    exact ⟨0, 1, _, _, _, _, _, _, _, _, _, _, _, _, _, rfl, fun _ => ⟨rfl, rfl⟩, fun w => by have := hok.mp w; omega⟩
  · rw [if_neg (show ¬ iL r < 0 from by simp (disch := omega) only [iI_lit, iL_lit, iI_add, iI_sub, iI_mul, iI_neg, iL_add, iL_sub, iL_mul, iL_neg, iI_lt, iI_le, iI_eq, iL_lt, iL_le, iL_eqS, iI_c, iI_ok, iI_l, iL_i, iI_low, l_ushrI, l_shlI, l_shrI, i_shlI, i_shrI, i_ushrI, iI_div, iL_div, Int.toNat_natCast, Int.reduceToNat, iI_ofNat]; omega)]
    by_cases w : a = z
    · rw [if_pos (show iI (z : Int) ≤ iI a from by simp (disch := omega) only [iI_lit, iL_lit, iI_add, iI_sub, iI_mul, iI_neg, iL_add, iL_sub, iL_mul, iL_neg, iI_lt, iI_le, iI_eq, iL_lt, iL_le, iL_eqS, iI_c, iI_ok, iI_l, iL_i, iI_low, l_ushrI, l_shlI, l_shrI, i_shlI, i_shrI, i_ushrI, iI_div, iL_div, Int.toNat_natCast, Int.reduceToNat, iI_ofNat]; omega), or_sg hs hsg (by omega) (by omega)]
      have hk : okP E z i := hok.mpr ⟨by omega, w⟩
      exact ⟨sg + r, 0, _, _, _, _, _, _, _, _, _, _, _, _, _, rfl, fun x => absurd hk x, fun _ => ⟨rfl, hM hk⟩⟩
    · rw [if_neg (show ¬ iI (z : Int) ≤ iI a from by simp (disch := omega) only [iI_lit, iL_lit, iI_add, iI_sub, iI_mul, iI_neg, iL_add, iL_sub, iL_mul, iL_neg, iI_lt, iI_le, iI_eq, iL_lt, iL_le, iL_eqS, iI_c, iI_ok, iI_l, iL_i, iI_low, l_ushrI, l_shlI, l_shrI, i_shlI, i_shrI, i_ushrI, iI_div, iL_div, Int.toNat_natCast, Int.reduceToNat, iI_ofNat]; omega)]
      exact ⟨0, 1, _, _, _, _, _, _, _, _, _, _, _, _, _, rfl, fun _ => ⟨rfl, rfl⟩, fun x => absurd (hok.mp x).2 w⟩
-- YY
set_option maxRecDepth 10000 in
theorem mvD {t : Int32} {tc : Nat → Int32} {E : List Int32} (h : TP t tc E) (hE : E.length ≤ 65536) {z i s : Nat} (hs : s < 2) (hz : z ≤ E.length) (hi : i ≤ z) {sg : Int} (hsg : sg = 0 ∨ sg = 2 ^ szS s) (k3 : ¬ hexP E z i) (hk : okP E z i ↔ (pOK E z i ∧ sfx E z (pZ E z i) = z)) (hno : okP E z i → ¬ wAt E z wN i ∧ ¬ wAt E z wI i) (tp dc us hn_ hp_ en ep : Int32) (pt : Int64) (hdc edc dg : Nat → Int32) (lc : Nat → Int64) :
    mvP E z i s sg tp (f_Md_value_263 (iL sg) tp (iI i) (iI z) tc dc pt (iI (szD s)) (iI (szL s)) us hn_ hdc lc hp_ dg en edc ep 0) := by
  unfold f_Md_value_263 f_Md_value_264
  rw [if_pos rfl]
  obtain ⟨r, at', u1, u2, u3, u4, u5, u6, u7, u8, u9, u10, u11, e, ha, g1, g2⟩ := mdecimal_spec hs h hE hz hi dc pt dg us hn_ hp_ en ep hdc edc lc
  rw [e, Option.bind_some]
  dsimp only
  rw [mv282 h hE hz ha]
  have hsb := sfx_b (E := E) ha
  by_cases q : pOK E z i
  · obtain ⟨rfl, d0, d1, d2, d3⟩ := g2 q
    refine mv361 hs hsg (by omega) (by omega) _ _ _ _ _ _ _ _ _ _ _ _ _ _ (Or.inr ⟨d0, d1⟩) ⟨fun x => ⟨d0, (hk.mp x).2⟩, fun x => hk.mpr ⟨q, x.2⟩⟩ (fun x => ?_)
    obtain ⟨n1, n2⟩ := hno x
    unfold MR
    rw [if_neg n1]
    refine ⟨r, rfl, d0, d1, ?_⟩
    rw [if_neg n2, if_neg k3]
    exact ⟨d0, d1, d2, d3⟩
  · have hr1 := g1 q
    exact mv361 hs hsg (by omega) (by omega) _ _ _ _ _ _ _ _ _ _ _ _ _ _ (Or.inl hr1) ⟨fun x => absurd (hk.mp x).1 q, fun x => by omega⟩ (fun x => absurd (hk.mp x).1 q)
set_option maxRecDepth 10000 in
theorem mvH {t : Int32} {tc : Nat → Int32} {E : List Int32} (h : TP t tc E) (hE : E.length ≤ 65536) {z i s : Nat} (hs : s < 2) (hz : z ≤ E.length) (hi : i ≤ z) {sg : Int} (hsg : sg = 0 ∨ sg = 2 ^ szS s) (k3 : hexP E z i) (hk : okP E z i ↔ (qOK E z (i + 2) ∧ sfx E z (qZ E z (i + 2)) = z)) (hno : okP E z i → ¬ wAt E z wN i ∧ ¬ wAt E z wI i) (tp dc us hn_ hp_ en ep : Int32) (pt : Int64) (hdc edc dg : Nat → Int32) (lc : Nat → Int64) :
    mvP E z i s sg tp (f_Md_value_259 (iL sg) tp (iI i) (iI z) tc dc pt (iI (szD s)) (iI (szL s)) us hn_ hdc lc hp_ dg en edc ep 0) := by
  unfold f_Md_value_259 f_Md_value_264
  rw [if_neg (show ¬ (1 : Int32) = 0 from by decide)]
  obtain ⟨r, at', e, ha, g1, g2⟩ := mhex_spec hs h hE hz rfl (hexP_in hi k3)
  rw [e, Option.bind_some]
  dsimp only
  rw [mv282 h hE hz ha]
  have hsb := sfx_b (E := E) ha
  by_cases q : qOK E z (i + 2)
  · obtain ⟨rfl, d0, d1, d2, d3⟩ := g2 q
    refine mv361 hs hsg (by omega) (by omega) _ _ _ _ _ _ _ _ _ _ _ _ _ _ (Or.inr ⟨d0, d1⟩) ⟨fun x => ⟨d0, (hk.mp x).2⟩, fun x => hk.mpr ⟨q, x.2⟩⟩ (fun x => ?_)
    obtain ⟨n1, n2⟩ := hno x
    unfold MR
    rw [if_neg n1]
    refine ⟨r, rfl, d0, d1, ?_⟩
    rw [if_neg n2, if_pos k3]
    exact ⟨d0, d1, d2, d3⟩
  · have hr1 := g1 q
    exact mv361 hs hsg (by omega) (by omega) _ _ _ _ _ _ _ _ _ _ _ _ _ _ (Or.inl hr1) ⟨fun x => absurd (hk.mp x).1 q, fun x => by omega⟩ (fun x => absurd (hk.mp x).1 q)
set_option maxRecDepth 10000 in
theorem mdnone_spec {s : Nat} (hs : s < 2) : f_Md_none (iI (szD s)) = some (iL ((2 ^ szK s - 1) * 2 ^ (szD s - 1) + 2 ^ (szD s - 2))) := by
  have : s = 0 ∨ s = 1 := by omega
  rcases this with rfl | rfl <;> decide +kernel
set_option maxRecDepth 10000 in
theorem mdsign_spec {s : Nat} (hs : s < 2) : f_Md_sign (iI (szD s)) = some (iL (2 ^ szS s)) := by
  have : s = 0 ∨ s = 1 := by omega
  rcases this with rfl | rfl <;> decide +kernel
set_option maxRecDepth 10000 in
theorem mv164 {t : Int32} {tc : Nat → Int32} {E : List Int32} (h : TP t tc E) (hE : E.length ≤ 65536) {z i s : Nat} (hs : s < 2) (hz : z ≤ E.length) (hi : i ≤ z) {sg : Int} (hsg : sg = 0 ∨ sg = 2 ^ szS s) (tp dc us hn_ hp_ en ep co : Int32) (pt : Int64) (hdc edc dg : Nat → Int32) (lc : Nat → Int64) :
    mvP E z i s sg tp (f_Md_value_164 (iL sg) tp (iI i) (iI z) tc dc pt (iI (szD s)) (iI (szL s)) us hn_ hdc lc hp_ dg en edc ep co) := by
  have ib := inf_b hs
  unfold f_Md_value_164
  rw [mword_spec h hE hz hi LW45 (by decide), Option.bind_some, mword_spec h hE hz hi LW46 (by decide), Option.bind_some]
  by_cases a1 : wAt E z wN i ∧ i + wN.length = z
  · have hk : okP E z i := by unfold okP; rw [if_pos a1.1]; exact a1.2
    rw [if_pos a1, if_neg (show ¬ iI 1 = 0 from by decide), mdnone_spec hs, Option.bind_some]
    refine ⟨_, 0, _, _, _, _, _, _, _, _, _, _, _, _, _, rfl, fun x => absurd hk x, fun _ => ⟨rfl, ?_⟩⟩
    unfold MR
    rw [if_pos a1.1]
  · rw [if_neg a1, if_pos (show iI 0 = 0 from rfl)]
    by_cases a2 : wAt E z wI i ∧ i + wI.length = z
    · have nN : ¬ wAt E z wN i := fun x => by have := wN_hd x; have := wI_hd a2.1; omega
      have hk : okP E z i := by unfold okP; rw [if_neg nN, if_pos a2.1]; exact a2.2
      rw [if_pos a2, if_neg (show ¬ iI 1 = 0 from by decide), inf_spec hs, Option.bind_some, or_sg hs hsg (by omega) (Int.le_refl _)]
      refine ⟨_, 0, _, _, _, _, _, _, _, _, _, _, _, _, _, rfl, fun x => absurd hk x, fun _ => ⟨rfl, ?_⟩⟩
      unfold MR
      rw [if_neg nN]
      refine ⟨_, rfl, by omega, Int.le_refl _, ?_⟩
      rw [if_pos a2.1]
    · rw [if_neg a2, if_pos (show iI 0 = 0 from rfl)]
      have hno : okP E z i → ¬ wAt E z wN i ∧ ¬ wAt E z wI i := by
        intro x
        unfold okP at x
        by_cases w1 : wAt E z wN i
        · rw [if_pos w1] at x; exact absurd ⟨w1, x⟩ a1
        · rw [if_neg w1] at x
          by_cases w2 : wAt E z wI i
          · rw [if_pos w2] at x; exact absurd ⟨w2, x⟩ a2
          · exact ⟨w1, w2⟩
      by_cases k3 : hexP E z i
      · have h48 := hexP_hd k3
        have hk : okP E z i ↔ (qOK E z (i + 2) ∧ sfx E z (qZ E z (i + 2)) = z) := by
          have w1 : ¬ wAt E z wN i := fun x => by have := wN_hd x; omega
          have w2 : ¬ wAt E z wI i := fun x => by have := wI_hd x; omega
          unfold okP; rw [if_neg w1, if_neg w2, if_pos k3]
        have hin := hexP_in hi k3
        have key := mvH h hE hs hz hi hsg k3 hk hno tp dc us hn_ hp_ en ep pt hdc edc dg lc
        have hx := k3
        rw [hexP_eq] at hx
        rw [if_neg (show ¬ iI (z : Int) ≤ iI i + 1 from by rw [show (1 : Int32) = iI 1 from rfl]; simp (disch := omega) only [iI_lit, iL_lit, iI_add, iI_sub, iI_mul, iI_neg, iL_add, iL_sub, iL_mul, iL_neg, iI_lt, iI_le, iI_eq, iL_lt, iL_le, iL_eqS, iI_c, iI_ok, iI_l, iL_i, iI_low, l_ushrI, l_shlI, l_shrI, i_shlI, i_shrI, i_ushrI, iI_div, iL_div, Int.toNat_natCast, Int.reduceToNat, iI_ofNat]; omega)]
        have e1 : iI (i : Int) + 1 = iI ((i + 1 : Nat) : Int) := by rw [show (1 : Int32) = iI 1 from rfl, iI_add]; rfl
        rw [e1]
        have ok1 : gx_ok (iI (i : Int)) 65536 = true := by simp (disch := omega) only [iI_lit, iL_lit, iI_add, iI_sub, iI_mul, iI_neg, iL_add, iL_sub, iL_mul, iL_neg, iI_lt, iI_le, iI_eq, iL_lt, iL_le, iL_eqS, iI_c, iI_ok, iI_l, iL_i, iI_low, l_ushrI, l_shlI, l_shrI, i_shlI, i_shrI, i_ushrI, iI_div, iL_div, Int.toNat_natCast, Int.reduceToNat, iI_ofNat]; omega
        have ok2 : gx_ok (iI ((i + 1 : Nat) : Int)) 65536 = true := by simp (disch := omega) only [iI_lit, iL_lit, iI_add, iI_sub, iI_mul, iI_neg, iL_add, iL_sub, iL_mul, iL_neg, iI_lt, iI_le, iI_eq, iL_lt, iL_le, iL_eqS, iI_c, iI_ok, iI_l, iL_i, iI_low, l_ushrI, l_shlI, l_shrI, i_shlI, i_shrI, i_ushrI, iI_div, iL_div, Int.toNat_natCast, Int.reduceToNat, iI_ofNat]; omega
        rw [if_pos ok1, if_pos ok2, if_pos ok2, iI_c (by omega) (by omega), iI_c (by omega) (by omega), Int.toNat_natCast, Int.toNat_natCast]
        rw [show (48 : Int32) = iI 48 from rfl, show (120 : Int32) = iI 120 from rfl, show (88 : Int32) = iI 88 from rfl]
        simp only [tcq h hz (show i < z by omega) (show (0 : Int) ≤ 48 by omega) (show (48 : Int) < 128 by omega), tcq h hz (show i + 1 < z by omega) (show (0 : Int) ≤ 120 by omega) (show (120 : Int) < 128 by omega), tcq h hz (show i + 1 < z by omega) (show (0 : Int) ≤ 88 by omega) (show (88 : Int) < 128 by omega)]
        rw [if_pos hx.1]
        by_cases v : hr E z (i + 1) = 120
        · rw [if_pos v]; exact key
        · rw [if_neg v, if_pos (by omega)]; exact key
      · have hk : okP E z i ↔ (pOK E z i ∧ sfx E z (pZ E z i) = z) := by
          by_cases w1 : wAt E z wN i
          · have h78 := wN_hd w1
            have np := no_dec (E := E) (z := z) (i := i) (by omega) (by omega)
            exact ⟨fun x => absurd w1 (hno x).1, fun x => absurd x.1 np⟩
          · by_cases w2 : wAt E z wI i
            · have h73 := wI_hd w2
              have np := no_dec (E := E) (z := z) (i := i) (by omega) (by omega)
              exact ⟨fun x => absurd w2 (hno x).2, fun x => absurd x.1 np⟩
            · unfold okP; rw [if_neg w1, if_neg w2, if_neg k3]
        have key := mvD h hE hs hz hi hsg k3 hk hno tp dc us hn_ hp_ en ep pt hdc edc dg lc
        by_cases w : z ≤ i + 1
        · rw [if_pos (show iI (z : Int) ≤ iI i + 1 from by rw [show (1 : Int32) = iI 1 from rfl]; simp (disch := omega) only [iI_lit, iL_lit, iI_add, iI_sub, iI_mul, iI_neg, iL_add, iL_sub, iL_mul, iL_neg, iI_lt, iI_le, iI_eq, iL_lt, iL_le, iL_eqS, iI_c, iI_ok, iI_l, iL_i, iI_low, l_ushrI, l_shlI, l_shrI, i_shlI, i_shrI, i_ushrI, iI_div, iL_div, Int.toNat_natCast, Int.reduceToNat, iI_ofNat]; omega)]
          exact key
        · rw [if_neg (show ¬ iI (z : Int) ≤ iI i + 1 from by rw [show (1 : Int32) = iI 1 from rfl]; simp (disch := omega) only [iI_lit, iL_lit, iI_add, iI_sub, iI_mul, iI_neg, iL_add, iL_sub, iL_mul, iL_neg, iI_lt, iI_le, iI_eq, iL_lt, iL_le, iL_eqS, iI_c, iI_ok, iI_l, iL_i, iI_low, l_ushrI, l_shlI, l_shrI, i_shlI, i_shrI, i_ushrI, iI_div, iL_div, Int.toNat_natCast, Int.reduceToNat, iI_ofNat]; omega)]
          have e1 : iI (i : Int) + 1 = iI ((i + 1 : Nat) : Int) := by rw [show (1 : Int32) = iI 1 from rfl, iI_add]; rfl
          rw [e1]
          have ok1 : gx_ok (iI (i : Int)) 65536 = true := by simp (disch := omega) only [iI_lit, iL_lit, iI_add, iI_sub, iI_mul, iI_neg, iL_add, iL_sub, iL_mul, iL_neg, iI_lt, iI_le, iI_eq, iL_lt, iL_le, iL_eqS, iI_c, iI_ok, iI_l, iL_i, iI_low, l_ushrI, l_shlI, l_shrI, i_shlI, i_shrI, i_ushrI, iI_div, iL_div, Int.toNat_natCast, Int.reduceToNat, iI_ofNat]; omega
          have ok2 : gx_ok (iI ((i + 1 : Nat) : Int)) 65536 = true := by simp (disch := omega) only [iI_lit, iL_lit, iI_add, iI_sub, iI_mul, iI_neg, iL_add, iL_sub, iL_mul, iL_neg, iI_lt, iI_le, iI_eq, iL_lt, iL_le, iL_eqS, iI_c, iI_ok, iI_l, iL_i, iI_low, l_ushrI, l_shlI, l_shrI, i_shlI, i_shrI, i_ushrI, iI_div, iL_div, Int.toNat_natCast, Int.reduceToNat, iI_ofNat]; omega
          rw [if_pos ok1, if_pos ok2, if_pos ok2, iI_c (by omega) (by omega), iI_c (by omega) (by omega), Int.toNat_natCast, Int.toNat_natCast]
          rw [show (48 : Int32) = iI 48 from rfl, show (120 : Int32) = iI 120 from rfl, show (88 : Int32) = iI 88 from rfl]
          simp only [tcq h hz (show i < z by omega) (show (0 : Int) ≤ 48 by omega) (show (48 : Int) < 128 by omega), tcq h hz (show i + 1 < z by omega) (show (0 : Int) ≤ 120 by omega) (show (120 : Int) < 128 by omega), tcq h hz (show i + 1 < z by omega) (show (0 : Int) ≤ 88 by omega) (show (88 : Int) < 128 by omega)]
          rw [hexP_eq] at k3
          by_cases v0 : hr E z i = 48
          · rw [if_pos v0, if_neg (fun x => k3 ⟨v0, Or.inl x⟩), if_neg (fun x => k3 ⟨v0, Or.inr x⟩)]
            exact key
          · rw [if_neg v0]
            exact key
set_option maxRecDepth 10000 in
theorem mvalue_spec {t : Int32} {tc : Nat → Int32} {E : List Int32} (h : TP t tc E) (hE : E.length ≤ 65536) {s : Nat} (hs : s < 2) (at_ st dc us hn_ hp_ en ep co : Int32) (pt : Int64) (hdc edc dg : Nat → Int32) (lc : Nat → Int64) :
    mvP E (tZ E) (tI E) s (tM E * 2 ^ szS s) (iI 0) (f_Md_value t at_ st tc dc pt (iI (szD s)) (iI (szL s)) us hn_ hdc lc hp_ dg en edc ep co) := by
  obtain ⟨b1, b2⟩ := t_b E
  have hI := tI_b E
  have hfu := fu_pos
  unfold f_Md_value
  have e1 := mv18 h hE (0 : Int32) dc pt (iI (szD s)) (iI (szL s)) us hn_ hdc lc hp_ dg en edc ep co E.length 0 gx_fu (by omega) (by omega)
  have e2 := mv68 h hE (0 : Int32) dc pt (iI (szD s)) (iI (szL s)) us hn_ hdc lc hp_ dg en edc ep co (a := tA E) (by omega) E.length gx_fu (by omega) (by omega)
  rw [h.1]
  have e3 : f_Md_value_18 gx_fu (0 : Int32) (0 : Int32) (iI E.length) tc dc pt (iI (szD s)) (iI (szL s)) us hn_ hdc lc hp_ dg en edc ep co = _ := e1
  rw [e3, show headB E E.length 0 = tA E from rfl, e2, show tailB E (tA E) E.length = tZ E from rfl]
  unfold f_Md_value_122 f_Md_value_142 f_Md_value_152
  have e4 : iI (tA E : Int) + 1 = iI ((tA E + 1 : Nat) : Int) := by rw [show (1 : Int32) = iI 1 from rfl, iI_add]; rfl
  rw [e4, show (45 : Int32) = iI 45 from rfl, show (43 : Int32) = iI 43 from rfl, mdis_spec h hE b2 (by omega) (by omega) (by omega), Option.bind_some, mdis_spec h hE b2 (by omega) (by omega) (by omega), Option.bind_some, mdsign_spec hs, Option.bind_some, Option.bind_some]
  by_cases q : hr E (tZ E) (tA E) = 45
  · have eI : tI E = tA E + 1 := if_pos (Or.inl q)
    have eM : tM E = 1 := if_pos q
    rw [if_pos q, if_neg (show ¬ iI 1 = 0 from by decide), if_neg (show ¬ iI 1 = 0 from by decide), eM, eI, Int.one_mul]
    rw [eI] at hI
    exact mv164 h hE hs b2 hI (Or.inr rfl) 0 dc us hn_ hp_ en ep co pt hdc edc dg lc
  · have eM : tM E = 0 := if_neg q
    rw [if_neg q, if_pos (show iI 0 = 0 from rfl), if_pos (show iI 0 = 0 from rfl), eM, Int.zero_mul]
    by_cases w : hr E (tZ E) (tA E) = 43
    · have eI : tI E = tA E + 1 := if_pos (Or.inr w)
      rw [if_pos w, if_neg (show ¬ iI 1 = 0 from by decide), eI]
      rw [eI] at hI
      exact mv164 h hE hs b2 hI (Or.inl rfl) 0 dc us hn_ hp_ en ep co pt hdc edc dg lc
    · have eI : tI E = tA E := if_neg (by omega)
      rw [if_neg w, if_pos (show iI 0 = 0 from rfl), eI]
      rw [eI] at hI
      exact mv164 h hE hs b2 hI (Or.inl rfl) 0 dc us hn_ hp_ en ep co pt hdc edc dg lc
-- YZ
set_option maxRecDepth 10000 in
theorem hRun_lt (E : List Int32) (z : Nat) : ∀ d N i, N < 16 ^ i → (hRun E z d N i).1 < 16 ^ (hRun E z d N i).2
  | 0, N, i, h => h
  | d + 1, N, i, h => by
    unfold hRun
    by_cases q : 0 ≤ hv (hr E z i)
    · rw [if_pos q]
      apply hRun_lt E z d
      have := hv_b (hr E z i)
      rw [Nat.pow_succ]; omega
    · rw [if_neg q]; exact h
set_option maxRecDepth 10000 in
theorem qN_lt (E : List Int32) (z i : Nat) : qN E z i < 16 ^ qE E z i := by
  have h1 : (qI E z i).1 < 16 ^ (qI E z i).2 := hRun_lt E z _ 0 i (Nat.pow_pos (by decide))
  unfold qN qE
  by_cases q : qDot E z i
  · rw [if_pos q, if_pos q]
    apply hRun_lt
    rw [Nat.pow_succ]; omega
  · rw [if_neg q, if_neg q]; exact h1
set_option maxRecDepth 10000 in
theorem rdr01 {s : Nat} (hs : s < 2) {fo : Int} (hf : fo = 0 ∨ fo = 1) (M : Int64) (P ng : Int32) : f_Rd_rounded s (iI fo) M P ng = some (iL (if fo = 0 then (2 ^ szK s - 1) * 2 ^ (szD s - 1) + 2 ^ (szD s - 2) else (2 ^ szK s - 1) * 2 ^ (szD s - 1) + (if ng = 0 then 0 else 2 ^ szS s))) := by
  obtain ⟨i1, _, i3⟩ := szinf hs
  unfold f_Rd_rounded
  rw [i1, i3, Option.bind_some, Option.bind_some, if_pos hs, if_pos hs]
  rcases hf with rfl | rfl
  · rw [if_pos (show iI 0 = 0 from rfl), if_pos rfl]
  · rw [if_neg (show ¬ iI 1 = 0 from by decide), if_pos (show iI 1 = 1 from rfl), if_neg (by decide)]
    exact rd39 hs (by have := (inf_b hs).1; omega) (Int.le_refl _) _ _ _ _
set_option maxRecDepth 10000 in
theorem hex_same {s H k : Nat} (hs : s < 2) (hH : 0 < H) (hk : H < 16 ^ k) (hk2 : k ≤ 65536) {f : Nat} (hf : f ≤ 65536) {a b r r' : Int} (hab : a = b ∨ (10000000 ≤ a ∧ 10000000 ≤ b) ∨ (a ≤ -10000000 ∧ b ≤ -10000000)) (h : HX s H (a - 4 * (f : Int)) r) (h' : HX s H (b - 4 * (f : Int)) r') : r = r' := by
  rcases hab with rfl | ⟨h1, h2⟩ | ⟨h1, h2⟩
  · exact NE_uniq hs (p2_pos _) h h'
  · rw [HX_hi hs hH (by omega) h, HX_hi hs hH (by omega) h']
  · rw [HX_lo hs hk (by omega) h, HX_lo hs hk (by omega) h']
set_option maxRecDepth 10000 in
theorem dec_same {s N : Nat} (hs : s < 2) {p a b r r' : Int} (hp0 : -100000 ≤ p) (hp1 : p ≤ 100000) (hab : a = b ∨ (10000000 ≤ a ∧ 10000000 ≤ b) ∨ (a ≤ -10000000 ∧ b ≤ -10000000)) (h : DEC s N (p + a) r) (h' : DEC s N (p + b) r') : r = r' := by
  rcases hab with rfl | ⟨h1, h2⟩ | ⟨h1, h2⟩
  · exact DEC_uniq hs h h'
  · rw [h.1 (by omega), h'.1 (by omega)]
  · rw [h.2.1 (by omega), h'.2.1 (by omega)]
set_option maxRecDepth 10000 in
theorem rd_same {E : List Int32} (hE : E.length ≤ 65536) {s : Nat} (hs : s < 2) {fo m t v : Int} (hk : okP E (tZ E) (tI E)) (hf0 : 0 ≤ fo) (hf1 : fo ≤ 2) (hb2 : ¬ wAt E (tZ E) wN (tI E) ∧ ¬ wAt E (tZ E) wI (tI E) → 0 ≤ m ∧ m < 4611686018427387904 ∧ -1100000000 ≤ t ∧ t ≤ 1100000000) (hC : CR E (tZ E) (tI E) fo m t) (hM : MR E (tZ E) (tI E) s (tM E * 2 ^ szS s) v) :
    f_Rd_rounded s (iI fo) (iL m) (iI t) (iI (tM E)) = some (iL v) := by
  obtain ⟨b1, b2⟩ := t_b E
  have hI := tI_b E
  have hsg : (if iI (tM E) = 0 then (0 : Int) else 2 ^ szS s) = tM E * 2 ^ szS s := by
    unfold tM
    split
    · rw [if_neg (show ¬ iI 1 = 0 from by decide), Int.one_mul]
    · rw [if_pos (show iI 0 = 0 from rfl), Int.zero_mul]
  unfold CR at hC
  unfold MR at hM
  by_cases k1 : wAt E (tZ E) wN (tI E)
  · rw [if_pos k1] at hC hM
    subst hC
    rw [rdr01 hs (Or.inl rfl), if_pos rfl, hM]
  · rw [if_neg k1] at hC hM
    obtain ⟨g, rfl, g0, g1, hg⟩ := hM
    by_cases k2 : wAt E (tZ E) wI (tI E)
    · rw [if_pos k2] at hC hg
      subst hC
      rw [rdr01 hs (Or.inr rfl), if_neg (by decide), hsg, hg, Int.add_comm]
    · rw [if_neg k2] at hC hg
      have main : (∀ b, isBL m b → (if fo = 1 then (2 ^ szK s - 1) * 2 ^ (szD s - 1) else roV s m t b) = g) → (fo = 1 ∨ fo = 2) → f_Rd_rounded s (iI fo) (iL m) (iI t) (iI (tM E)) = some (iL (tM E * 2 ^ szS s + g)) := by
        intro hh h12
        obtain ⟨q0, q1, q2, q3⟩ := hb2 ⟨k1, k2⟩
        obtain ⟨b, _, hb, _⟩ := nlzL_spec (v := m) q0 (by omega)
        rcases h12 with rfl | rfl
        · rw [rdr01 hs (Or.inr rfl), if_neg (by decide), hsg]
          have := hh b hb
          rw [if_pos rfl] at this
          rw [this, Int.add_comm]
        · obtain ⟨b, hb, e⟩ := rdr_spec hs (fo := 2) (by omega) (by omega) q0 q1 q2 q3 (iI (tM E))
          rw [e]
          unfold rdV
          rw [if_neg (by decide), if_neg (by decide), hsg]
          have := hh b hb
          rw [if_neg (by decide)] at this
          rw [this, Int.add_comm]
      by_cases k3 : hexP E (tZ E) (tI E)
      · rw [if_pos k3] at hC hg
        obtain ⟨hfo, c1, c2⟩ := hC
        obtain ⟨_, _, d1, d2⟩ := hg
        obtain ⟨q1, q2, q3, q4, q5⟩ := q_b (E := E) (hexP_in hI k3)
        refine main (fun b hb => ?_) (Or.inr hfo)
        rw [if_neg (by omega)]
        rcases Nat.eq_zero_or_pos (qN E (tZ E) (tI E + 2)) with hH | hH
        · rw [d1 hH, c1 hH]; unfold roV; rw [if_pos rfl]
        · exact hex_same hs hH (qN_lt E (tZ E) (tI E + 2)) (by omega) (by omega) (x_rel E (tZ E) _).2.2.2.2.2 (c2 hH s hs b hb) (d2 hH)
      · rw [if_neg k3] at hC hg
        obtain ⟨h12, c1, c2⟩ := hC
        obtain ⟨_, _, d1, d2⟩ := hg
        obtain ⟨q1, q2, q3, q4, q5, q6, q7⟩ := p_b (E := E) hI
        refine main (fun b hb => ?_) h12
        rcases Nat.eq_zero_or_pos (pN E (tZ E) (tI E)) with hH | hH
        · rw [if_neg (by have := (c1 hH).2; omega), d1 hH, (c1 hH).1]; unfold roV; rw [if_pos rfl]
        · refine dec_same hs (p := (nd (pN E (tZ E) (tI E)) : Int) - pf E (tZ E) (tI E)) (by omega) (by omega) ?_ (c2 hH s hs b hb) (d2 hH)
          unfold pXC pXM
          split
          · exact (x_rel E (tZ E) _).2.2.2.2.2
          · exact Or.inl rfl
-- XA
set_option maxRecDepth 10000 in
theorem keep0 {len : Int32} {k : Nat} (hl : len = iI k) (hk : k ≤ 1000000) (ov : Int32) : f_By_keep (0 : Int32) len ov = some (iI 0, iI 0) := by
  unfold f_By_keep
  rw [show (0 : Int32) = iI 0 from rfl, max_spec (by omega) (by omega) (by omega) (by omega), Option.bind_some, hl, min_spec (by omega) (by omega) (by omega) (by omega), Option.bind_some, show min (max (0 : Int) 0) (k : Int) = 0 by omega]
set_option maxRecDepth 10000 in
theorem parse_ok {len over : Int32} {c : Nat → Int32} {E : List Int32} (h : BY 65536 len over c E) (hE : E.length ≤ 65536) {t : Int32} {tc : Nat → Int32} (hT : TP t tc E) (hk : okP E (tZ E) (tI E)) (at_ st ng ns ke po ch un ex lo ds fo : Int32) (nc dc : Nat → Int32) (ma : Int64) (mat mst mdc mbi mle mus mhn mhp men mep mco : Int32) (mpt : Int64) (mhd med mdg : Nat → Int32) (mlc : Nat → Int64) :
    ∃ v a1 a2 a3 a4 a5 a6 a7 a8 a9 a10 a11 a12 a13 a14 a15 b1 b2 b3 b4 b5 b6 b7 b8 b9 b10 b11 b12 b13, f_Nt_parse 65536 len at_ c st ng ns nc ke po ch un ex lo ds dc ma fo over = some (v, iI 0, a1, a2, a3, a4, a5, a6, a7, a8, a9, a10, a11, a12, a13, a14, a15, iI 0) ∧ f_Md_parse t mat mst tc mdc mpt mbi mle mus mhn mhd mlc mhp mdg men med mep mco = some (v, iI 0, b1, b2, b3, b4, iI 53, iI (-1074), b5, b6, b7, b8, b9, b10, b11, b12, b13, iI 0) := by
  have hlen : len = iI E.length := by rw [h.1]; congr 2; omega
  obtain ⟨u1, u2, ns', nc', ke', tt, ch', un', ex', lo', ds', dc', m, fo', e1, g1⟩ := read_spec (by omega) h hE hE at_ st ng ns ke po ch un ex lo ds fo nc dc ma
  obtain ⟨f0, f1, fb, hC⟩ := g1 hk
  obtain ⟨v, co, w1, w2, w3, w4, w5, w6, w7, w8, w9, w10, w11, w12, w13, e2, _, g2⟩ := mvalue_spec hT hE (s := 0) (by omega) mat mst mdc mus mhn mhp men mep mco mpt mhd med mdg mlc
  obtain ⟨rfl, hM⟩ := g2 hk
  have er := rd_same hE (by omega) hk f0 f1 fb hC hM
  unfold f_Nt_parse f_Md_parse
  rw [e1, Option.bind_some, keep0 hlen (by omega), Option.bind_some]
  dsimp only
  rw [if_pos hk, if_neg (show ¬ iI 1 = 0 from by decide), er, Option.bind_some]
  have ek : f_Md_kind (1 : Int32) mbi mle = some (iI (szD 0), iI (szL 0)) := kind_spec (s := 0) (by omega) mbi mle
  rw [ek, Option.bind_some]
  dsimp only
  rw [e2, Option.bind_some]
  exact ⟨_, _, _, _, _, _, _, _, _, _, _, _, _, _, _, _, _, _, _, _, _, _, _, _, _, _, _, _, _, rfl, rfl⟩
set_option maxRecDepth 10000 in
theorem parse_no {len over : Int32} {c : Nat → Int32} {E : List Int32} (h : BY 65536 len over c E) (hE : E.length ≤ 65536) {t : Int32} {tc : Nat → Int32} (hT : TP t tc E) (hk : ¬ okP E (tZ E) (tI E)) (at_ st ng ns ke po ch un ex lo ds fo : Int32) (nc dc : Nat → Int32) (ma : Int64) (mat mst mdc mbi mle mus mhn mhp men mep mco : Int32) (mpt : Int64) (mhd med mdg : Nat → Int32) (mlc : Nat → Int64) :
    ∃ a1 a2 a3 a4 a5 a6 a7 a8 a9 a10 a11 a12 a13 a14 a15 b1 b2 b3 b4 b5 b6 b7 b8 b9 b10 b11 b12 b13, t_Nt_parse 65536 len at_ c st ng ns nc ke po ch un ex lo ds dc ma fo over = some (2, iI 0, a1, a2, a3, a4, a5, a6, a7, a8, a9, a10, a11, a12, a13, a14, a15, iI 0) ∧ f_Md_parse t mat mst tc mdc mpt mbi mle mus mhn mhd mlc mhp mdg men med mep mco = some (iL 0, iI 0, b1, b2, b3, b4, iI 53, iI (-1074), b5, b6, b7, b8, b9, b10, b11, b12, b13, iI 1) := by
  have hlen : len = iI E.length := by rw [h.1]; congr 2; omega
  obtain ⟨u1, u2, ns', nc', ke', tt, ch', un', ex', lo', ds', dc', m, fo', e1, g1⟩ := read_spec (by omega) h hE hE at_ st ng ns ke po ch un ex lo ds fo nc dc ma
  obtain ⟨v, co, w1, w2, w3, w4, w5, w6, w7, w8, w9, w10, w11, w12, w13, e2, g2, _⟩ := mvalue_spec hT hE (s := 0) (by omega) mat mst mdc mus mhn mhp men mep mco mpt mhd med mdg mlc
  obtain ⟨rfl, rfl⟩ := g2 hk
  unfold t_Nt_parse f_Md_parse
  rw [e1, Option.bind_some, keep0 hlen (by omega), Option.bind_some]
  dsimp only
  rw [if_neg hk, if_pos (show iI 0 = 0 from rfl)]
  have ek : f_Md_kind (1 : Int32) mbi mle = some (iI (szD 0), iI (szL 0)) := kind_spec (s := 0) (by omega) mbi mle
  rw [ek, Option.bind_some]
  dsimp only
  rw [e2, Option.bind_some]
  exact ⟨_, _, _, _, _, _, _, _, _, _, _, _, _, _, _, _, _, _, _, _, _, _, _, _, _, _, _, _, rfl, rfl⟩
set_option maxRecDepth 10000 in
theorem parseF_ok {len over : Int32} {c : Nat → Int32} {E : List Int32} (h : BY 65536 len over c E) (hE : E.length ≤ 65536) {t : Int32} {tc : Nat → Int32} (hT : TP t tc E) (hk : okP E (tZ E) (tI E)) (at_ st ng ns ke po ch un ex lo ds fo : Int32) (nc dc : Nat → Int32) (ma : Int64) (mat mst mdc mbi mle mus mhn mhp men mep mco : Int32) (mpt : Int64) (mhd med mdg : Nat → Int32) (mlc : Nat → Int64) :
    ∃ v a1 a2 a3 a4 a5 a6 a7 a8 a9 a10 a11 a12 a13 a14 a15 b1 b2 b3 b4 b5 b6 b7 b8 b9 b10 b11 b12 b13, f_Nt_parseFloat 65536 len at_ c st ng ns nc ke po ch un ex lo ds dc ma fo over = some (v, iI 0, a1, a2, a3, a4, a5, a6, a7, a8, a9, a10, a11, a12, a13, a14, a15, iI 0) ∧ f_Md_parseFloat t mat mst tc mdc mpt mbi mle mus mhn mhd mlc mhp mdg men med mep mco = some (v, iI 0, b1, b2, b3, b4, iI 24, iI (-149), b5, b6, b7, b8, b9, b10, b11, b12, b13, iI 0) := by
  have hlen : len = iI E.length := by rw [h.1]; congr 2; omega
  obtain ⟨u1, u2, ns', nc', ke', tt, ch', un', ex', lo', ds', dc', m, fo', e1, g1⟩ := read_spec (by omega) h hE hE at_ st ng ns ke po ch un ex lo ds fo nc dc ma
  obtain ⟨f0, f1, fb, hC⟩ := g1 hk
  obtain ⟨v, co, w1, w2, w3, w4, w5, w6, w7, w8, w9, w10, w11, w12, w13, e2, _, g2⟩ := mvalue_spec hT hE (s := 1) (by omega) mat mst mdc mus mhn mhp men mep mco mpt mhd med mdg mlc
  obtain ⟨rfl, hM⟩ := g2 hk
  have er := rd_same hE (by omega) hk f0 f1 fb hC hM
  unfold f_Nt_parseFloat f_Md_parseFloat
  rw [e1, Option.bind_some, keep0 hlen (by omega), Option.bind_some]
  dsimp only
  rw [if_pos hk, if_neg (show ¬ iI 1 = 0 from by decide), er, Option.bind_some]
  have ek : f_Md_kind (0 : Int32) mbi mle = some (iI (szD 1), iI (szL 1)) := kind_spec (s := 1) (by omega) mbi mle
  rw [ek, Option.bind_some]
  dsimp only
  rw [e2, Option.bind_some]
  exact ⟨_, _, _, _, _, _, _, _, _, _, _, _, _, _, _, _, _, _, _, _, _, _, _, _, _, _, _, _, _, rfl, rfl⟩
set_option maxRecDepth 10000 in
theorem parseF_no {len over : Int32} {c : Nat → Int32} {E : List Int32} (h : BY 65536 len over c E) (hE : E.length ≤ 65536) {t : Int32} {tc : Nat → Int32} (hT : TP t tc E) (hk : ¬ okP E (tZ E) (tI E)) (at_ st ng ns ke po ch un ex lo ds fo : Int32) (nc dc : Nat → Int32) (ma : Int64) (mat mst mdc mbi mle mus mhn mhp men mep mco : Int32) (mpt : Int64) (mhd med mdg : Nat → Int32) (mlc : Nat → Int64) :
    ∃ a1 a2 a3 a4 a5 a6 a7 a8 a9 a10 a11 a12 a13 a14 a15 b1 b2 b3 b4 b5 b6 b7 b8 b9 b10 b11 b12 b13, t_Nt_parseFloat 65536 len at_ c st ng ns nc ke po ch un ex lo ds dc ma fo over = some (2, iI 0, a1, a2, a3, a4, a5, a6, a7, a8, a9, a10, a11, a12, a13, a14, a15, iI 0) ∧ f_Md_parseFloat t mat mst tc mdc mpt mbi mle mus mhn mhd mlc mhp mdg men med mep mco = some (iI 0, iI 0, b1, b2, b3, b4, iI 24, iI (-149), b5, b6, b7, b8, b9, b10, b11, b12, b13, iI 1) := by
  have hlen : len = iI E.length := by rw [h.1]; congr 2; omega
  obtain ⟨u1, u2, ns', nc', ke', tt, ch', un', ex', lo', ds', dc', m, fo', e1, g1⟩ := read_spec (by omega) h hE hE at_ st ng ns ke po ch un ex lo ds fo nc dc ma
  obtain ⟨v, co, w1, w2, w3, w4, w5, w6, w7, w8, w9, w10, w11, w12, w13, e2, g2, _⟩ := mvalue_spec hT hE (s := 1) (by omega) mat mst mdc mus mhn mhp men mep mco mpt mhd med mdg mlc
  obtain ⟨rfl, rfl⟩ := g2 hk
  unfold t_Nt_parseFloat f_Md_parseFloat
  rw [e1, Option.bind_some, keep0 hlen (by omega), Option.bind_some]
  dsimp only
  rw [if_neg hk, if_pos (show iI 0 = 0 from rfl)]
  have ek : f_Md_kind (0 : Int32) mbi mle = some (iI (szD 1), iI (szL 1)) := kind_spec (s := 1) (by omega) mbi mle
  rw [ek, Option.bind_some]
  dsimp only
  rw [e2, Option.bind_some]
  exact ⟨_, _, _, _, _, _, _, _, _, _, _, _, _, _, _, _, _, _, _, _, _, _, _, _, _, _, _, _, rfl, rfl⟩
-- XB
set_option maxRecDepth 10000 in
theorem nar_d {x : Nat} (h : x ≤ 9) : vp_nar .byte (iI (x : Int)) = iI x := by rw [nar_bs]; exact sb_small (by omega) (by omega)
set_option maxRecDepth 10000 in
def rnd2E (v3 a1n a1p : Int32) (a1d : Nat → Int32) (cn cp : Int32) (cc : Nat → Int32) : Option (Int32 × Int32 × (Nat → Int32)) :=
  if v3 < 0 then some (cn, cp, cc) else if a1n ≤ v3 then some (cn, cp, cc) else if gx_ok v3 1300 = true then if (a1d v3.toNatClampNeg) < (5 : Int32) then some (cn, cp, cc) else (if v3 = 0 then (if gx_ok (0 : Int32) 1300 = true then some ((1 : Int32), a1p + (1 : Int32), upd cc (0 : Int32).toNatClampNeg (vp_nar .byte (1 : Int32))) else none) else ((f_Md_more cn cp cc).bind fun u153 => some (u153.1, u153.2.1, u153.2.2))) else none
set_option maxRecDepth 10000 in
theorem rnd47 {δ : Nat → Nat} {rn : Nat} {rd : Nat → Int32} (hE : DL 1300 (iI rn) rd rn δ) {n : Nat} (hn : n ≤ rn) (a1p cn cp : Int32) :
    ∀ (d i m : Nat) (cc : Nat → Int32), i + d = n → d < m → (∀ k, k < i → cc k = iI (δ k)) → ∃ c', (∀ k, k < n → c' k = iI (δ k)) ∧ f_Md_rounded2_47 m (iI n) (iI i) (iI rn) a1p rd cn cp cc = rnd2E (iI n) (iI rn) a1p rd cn cp c'
  | 0, i, m + 1, cc, hi, hm, hc => by
    rw [f_Md_rounded2_47, if_pos (show iI (n : Int) ≤ iI i from by have := hE.2.1; simp (disch := omega) only [iI_lit, iL_lit, iI_add, iI_sub, iI_mul, iI_neg, iL_add, iL_sub, iL_mul, iL_neg, iI_lt, iI_le, iI_eq, iL_lt, iL_le, iL_eqS, iI_c, iI_ok, iI_l, iL_i, iI_low, l_ushrI, l_shlI, l_shrI, i_shlI, i_shrI, i_ushrI, iI_div, iL_div, Int.toNat_natCast, Int.reduceToNat, iI_ofNat]; omega)]
    exact ⟨cc, fun k hk => hc k (by omega), rfl⟩
  | d + 1, i, m + 1, cc, hi, hm, hc => by
    obtain ⟨_, h1, h2, h3, h4⟩ := hE
    rw [f_Md_rounded2_47, if_neg (show ¬ iI (n : Int) ≤ iI i from by simp (disch := omega) only [iI_lit, iL_lit, iI_add, iI_sub, iI_mul, iI_neg, iL_add, iL_sub, iL_mul, iL_neg, iI_lt, iI_le, iI_eq, iL_lt, iL_le, iL_eqS, iI_c, iI_ok, iI_l, iL_i, iI_low, l_ushrI, l_shlI, l_shrI, i_shlI, i_shrI, i_ushrI, iI_div, iL_div, Int.toNat_natCast, Int.reduceToNat, iI_ofNat]; omega), if_neg (show ¬ iI (rn : Int) ≤ iI i from by simp (disch := omega) only [iI_lit, iL_lit, iI_add, iI_sub, iI_mul, iI_neg, iL_add, iL_sub, iL_mul, iL_neg, iI_lt, iI_le, iI_eq, iL_lt, iL_le, iL_eqS, iI_c, iI_ok, iI_l, iL_i, iI_low, l_ushrI, l_shlI, l_shrI, i_shlI, i_shrI, i_ushrI, iI_div, iL_div, Int.toNat_natCast, Int.reduceToNat, iI_ofNat]; omega)]
    have hok : gx_ok (iI (i : Int)) 1300 = true := by simp (disch := omega) only [iI_lit, iL_lit, iI_add, iI_sub, iI_mul, iI_neg, iL_add, iL_sub, iL_mul, iL_neg, iI_lt, iI_le, iI_eq, iL_lt, iL_le, iL_eqS, iI_c, iI_ok, iI_l, iL_i, iI_low, l_ushrI, l_shlI, l_shrI, i_shlI, i_shrI, i_ushrI, iI_div, iL_div, Int.toNat_natCast, Int.reduceToNat, iI_ofNat]; omega
    unfold f_Md_rounded2_82
    rw [if_pos hok, if_pos hok, iI_c (by omega) (by omega), Int.toNat_natCast, h2 i (by omega), nar_d (h4 i)]
    rw [show iI (i : Int) + 1 = iI ((i + 1 : Nat) : Int) from by rw [show (1 : Int32) = iI 1 from rfl, iI_add]; rfl]
    exact rnd47 ⟨rfl, h1, h2, h3, h4⟩ hn a1p cn cp d (i + 1) m _ (by omega) (by omega) (fun k hk => by
      by_cases w : k = i
      · rw [w, upd_s]
      · rw [upd_n w]; exact hc k (by omega))
set_option maxRecDepth 10000 in
theorem rnd2_spec {δ : Nat → Nat} {rn : Nat} {rd : Nat → Int32} (hE : DL 1300 (iI rn) rd rn δ) (hrn : rn < 1300) {k p : Int} (hk0 : -2000000000 ≤ k) (hk1 : k ≤ 2000000000) (cn cp : Int32) (cc : Nat → Int32) :
    ∃ (n' : Nat) (c' : Nat → Int32), f_Md_rounded2 (iI k) (iI rn) (iI p) rd cn cp cc = some (iI n', iI (p + rndC δ k), c') ∧ DL 1300 (iI n') c' n' (rndF δ k) ∧ (n' = 0 ↔ rn = 0 ∨ k < 0 ∨ (k = 0 ∧ δ 0 < 5)) := by
  have hE' := hE
  obtain ⟨_, h1, h2, h3, h4⟩ := hE
  have hfu := fu_pos
  unfold f_Md_rounded2 f_Md_rounded2_16 f_Md_rounded2_41
  by_cases q1 : k < 0
  · rw [if_neg (show ¬ iI (rn : Int) ≤ iI k from by simp (disch := omega) only [iI_lit, iL_lit, iI_add, iI_sub, iI_mul, iI_neg, iL_add, iL_sub, iL_mul, iL_neg, iI_lt, iI_le, iI_eq, iL_lt, iL_le, iL_eqS, iI_c, iI_ok, iI_l, iL_i, iI_low, l_ushrI, l_shlI, l_shrI, i_shlI, i_shrI, i_ushrI, iI_div, iL_div, Int.toNat_natCast, Int.reduceToNat, iI_ofNat]; omega), if_neg (show ¬ (0 : Int32) ≤ iI k from by simp (disch := omega) only [iI_lit, iL_lit, iI_add, iI_sub, iI_mul, iI_neg, iL_add, iL_sub, iL_mul, iL_neg, iI_lt, iI_le, iI_eq, iL_lt, iL_le, iL_eqS, iI_c, iI_ok, iI_l, iL_i, iI_low, l_ushrI, l_shlI, l_shrI, i_shlI, i_shrI, i_ushrI, iI_div, iL_div, Int.toNat_natCast, Int.reduceToNat, iI_ofNat]; omega)]
    obtain ⟨m, hm⟩ : ∃ m, gx_fu = m + 1 := ⟨gx_fu - 1, by omega⟩
    rw [hm, f_Md_rounded2_47, if_pos (show iI k ≤ 0 from by simp (disch := omega) only [iI_lit, iL_lit, iI_add, iI_sub, iI_mul, iI_neg, iL_add, iL_sub, iL_mul, iL_neg, iI_lt, iI_le, iI_eq, iL_lt, iL_le, iL_eqS, iI_c, iI_ok, iI_l, iL_i, iI_low, l_ushrI, l_shlI, l_shrI, i_shlI, i_shrI, i_ushrI, iI_div, iL_div, Int.toNat_natCast, Int.reduceToNat, iI_ofNat]; omega), if_pos (show iI k < 0 from by simp (disch := omega) only [iI_lit, iL_lit, iI_add, iI_sub, iI_mul, iI_neg, iL_add, iL_sub, iL_mul, iL_neg, iI_lt, iI_le, iI_eq, iL_lt, iL_le, iL_eqS, iI_c, iI_ok, iI_l, iL_i, iI_low, l_ushrI, l_shlI, l_shrI, i_shlI, i_shrI, i_ushrI, iI_div, iL_div, Int.toNat_natCast, Int.reduceToNat, iI_ofNat]; omega)]
    refine ⟨0, cc, ?_, ?_, ?_⟩
    · have : rndC δ k = 0 := by unfold rndC; rw [if_pos q1]
      rw [this, Int.add_zero]; rfl
    · have : rndF δ k = fun _ => 0 := by unfold rndF; rw [if_pos q1]
      rw [this]
      exact ⟨rfl, by omega, fun i hi => absurd hi (by omega), fun _ _ => rfl, fun _ => Nat.zero_le _⟩
    · exact ⟨fun _ => Or.inr (Or.inl q1), fun _ => rfl⟩
  · obtain ⟨K, rfl⟩ : ∃ K : Nat, k = (K : Int) := ⟨k.toNat, by omega⟩
    by_cases q2 : rn ≤ K
    · rw [if_pos (show iI (rn : Int) ≤ iI (K : Int) from by simp (disch := omega) only [iI_lit, iL_lit, iI_add, iI_sub, iI_mul, iI_neg, iL_add, iL_sub, iL_mul, iL_neg, iI_lt, iI_le, iI_eq, iL_lt, iL_le, iL_eqS, iI_c, iI_ok, iI_l, iL_i, iI_low, l_ushrI, l_shlI, l_shrI, i_shlI, i_shrI, i_ushrI, iI_div, iL_div, Int.toNat_natCast, Int.reduceToNat, iI_ofNat]; omega), if_pos (show (0 : Int32) ≤ iI (rn : Int) from by simp (disch := omega) only [iI_lit, iL_lit, iI_add, iI_sub, iI_mul, iI_neg, iL_add, iL_sub, iL_mul, iL_neg, iI_lt, iI_le, iI_eq, iL_lt, iL_le, iL_eqS, iI_c, iI_ok, iI_l, iL_i, iI_low, l_ushrI, l_shlI, l_shrI, i_shlI, i_shrI, i_ushrI, iI_div, iL_div, Int.toNat_natCast, Int.reduceToNat, iI_ofNat]; omega)]
      obtain ⟨c', hc', e⟩ := rnd47 hE' (Nat.le_refl rn) (iI p) (iI rn) (iI p) rn 0 gx_fu cc (by omega) (by omega) (fun i hi => absurd hi (by omega))
      have e' : f_Md_rounded2_47 gx_fu (iI rn) (0 : Int32) (iI rn) (iI p) rd (iI rn) (iI p) cc = _ := e
      rw [e']
      unfold rnd2E
      rw [if_neg (show ¬ iI (rn : Int) < 0 from by simp (disch := omega) only [iI_lit, iL_lit, iI_add, iI_sub, iI_mul, iI_neg, iL_add, iL_sub, iL_mul, iL_neg, iI_lt, iI_le, iI_eq, iL_lt, iL_le, iL_eqS, iI_c, iI_ok, iI_l, iL_i, iI_low, l_ushrI, l_shlI, l_shrI, i_shlI, i_shrI, i_ushrI, iI_div, iL_div, Int.toNat_natCast, Int.reduceToNat, iI_ofNat]; omega), if_pos (show iI (rn : Int) ≤ iI (rn : Int) from by simp (disch := omega) only [iI_lit, iL_lit, iI_add, iI_sub, iI_mul, iI_neg, iL_add, iL_sub, iL_mul, iL_neg, iI_lt, iI_le, iI_eq, iL_lt, iL_le, iL_eqS, iI_c, iI_ok, iI_l, iL_i, iI_low, l_ushrI, l_shlI, l_shrI, i_shlI, i_shrI, i_ushrI, iI_div, iL_div, Int.toNat_natCast, Int.reduceToNat, iI_ofNat]; omega)]
      have hz : δ K = 0 := h3 K q2
      refine ⟨rn, c', ?_, ?_, ?_⟩
      · have : rndC δ (K : Int) = 0 := by unfold rndC; rw [if_neg (by omega), Int.toNat_natCast, hz, if_neg (by omega)]
        rw [this, Int.add_zero]
      · have : rndF δ (K : Int) = δ := by
          unfold rndF; rw [if_neg (by omega), Int.toNat_natCast, hz, if_neg (by omega)]
          funext i
          unfold tr
          by_cases w : i < K
          · rw [if_pos w]
          · rw [if_neg w, h3 i (by omega)]
        rw [this]
        exact ⟨rfl, h1, hc', h3, h4⟩
      · constructor
        · intro w; exact Or.inl w
        · intro w
          rcases w with w | w | w
          · exact w
          · omega
          · omega
    · rw [if_neg (show ¬ iI (rn : Int) ≤ iI (K : Int) from by simp (disch := omega) only [iI_lit, iL_lit, iI_add, iI_sub, iI_mul, iI_neg, iL_add, iL_sub, iL_mul, iL_neg, iI_lt, iI_le, iI_eq, iL_lt, iL_le, iL_eqS, iI_c, iI_ok, iI_l, iL_i, iI_low, l_ushrI, l_shlI, l_shrI, i_shlI, i_shrI, i_ushrI, iI_div, iL_div, Int.toNat_natCast, Int.reduceToNat, iI_ofNat]; omega), if_pos (show (0 : Int32) ≤ iI (K : Int) from by simp (disch := omega) only [iI_lit, iL_lit, iI_add, iI_sub, iI_mul, iI_neg, iL_add, iL_sub, iL_mul, iL_neg, iI_lt, iI_le, iI_eq, iL_lt, iL_le, iL_eqS, iI_c, iI_ok, iI_l, iL_i, iI_low, l_ushrI, l_shlI, l_shrI, i_shlI, i_shrI, i_ushrI, iI_div, iL_div, Int.toNat_natCast, Int.reduceToNat, iI_ofNat]; omega)]
      obtain ⟨c', hc', e⟩ := rnd47 hE' (n := K) (by omega) (iI p) (iI K) (iI p) K 0 gx_fu cc (by omega) (by omega) (fun i hi => absurd hi (by omega))
      have e' : f_Md_rounded2_47 gx_fu (iI K) (0 : Int32) (iI rn) (iI p) rd (iI K) (iI p) cc = _ := e
      rw [e']
      unfold rnd2E
      have h4K := h4 K
      rw [if_neg (show ¬ iI (K : Int) < 0 from by simp (disch := omega) only [iI_lit, iL_lit, iI_add, iI_sub, iI_mul, iI_neg, iL_add, iL_sub, iL_mul, iL_neg, iI_lt, iI_le, iI_eq, iL_lt, iL_le, iL_eqS, iI_c, iI_ok, iI_l, iL_i, iI_low, l_ushrI, l_shlI, l_shrI, i_shlI, i_shrI, i_ushrI, iI_div, iL_div, Int.toNat_natCast, Int.reduceToNat, iI_ofNat]; omega), if_neg (show ¬ iI (rn : Int) ≤ iI (K : Int) from by simp (disch := omega) only [iI_lit, iL_lit, iI_add, iI_sub, iI_mul, iI_neg, iL_add, iL_sub, iL_mul, iL_neg, iI_lt, iI_le, iI_eq, iL_lt, iL_le, iL_eqS, iI_c, iI_ok, iI_l, iL_i, iI_low, l_ushrI, l_shlI, l_shrI, i_shlI, i_shrI, i_ushrI, iI_div, iL_div, Int.toNat_natCast, Int.reduceToNat, iI_ofNat]; omega), if_pos (show gx_ok (iI (K : Int)) 1300 = true from by simp (disch := omega) only [iI_lit, iL_lit, iI_add, iI_sub, iI_mul, iI_neg, iL_add, iL_sub, iL_mul, iL_neg, iI_lt, iI_le, iI_eq, iL_lt, iL_le, iL_eqS, iI_c, iI_ok, iI_l, iL_i, iI_low, l_ushrI, l_shlI, l_shrI, i_shlI, i_shrI, i_ushrI, iI_div, iL_div, Int.toNat_natCast, Int.reduceToNat, iI_ofNat]; omega), iI_c (by omega) (by omega), Int.toNat_natCast, h2 K (by omega)]
      by_cases q3 : δ K < 5
      · rw [if_pos (show iI (δ K : Int) < 5 from by simp (disch := omega) only [iI_lit, iL_lit, iI_add, iI_sub, iI_mul, iI_neg, iL_add, iL_sub, iL_mul, iL_neg, iI_lt, iI_le, iI_eq, iL_lt, iL_le, iL_eqS, iI_c, iI_ok, iI_l, iL_i, iI_low, l_ushrI, l_shlI, l_shrI, i_shlI, i_shrI, i_ushrI, iI_div, iL_div, Int.toNat_natCast, Int.reduceToNat, iI_ofNat]; omega)]
        refine ⟨K, c', ?_, ?_, ?_⟩
        · have : rndC δ (K : Int) = 0 := by unfold rndC; rw [if_neg (by omega), Int.toNat_natCast, if_neg (by omega)]
          rw [this, Int.add_zero]
        · have : rndF δ (K : Int) = tr δ K := by unfold rndF; rw [if_neg (by omega), Int.toNat_natCast, if_neg (by omega)]
          rw [this]
          exact ⟨rfl, by omega, fun i hi => by unfold tr; rw [if_pos hi]; exact hc' i hi, fun i hi => by unfold tr; rw [if_neg (by omega)], fun i => tr_le h4 K i⟩
        · constructor
          · intro w; subst w; exact Or.inr (Or.inr ⟨rfl, q3⟩)
          · intro w; rcases w with w | w | w <;> omega
      · rw [if_neg (show ¬ iI (δ K : Int) < 5 from by simp (disch := omega) only [iI_lit, iL_lit, iI_add, iI_sub, iI_mul, iI_neg, iL_add, iL_sub, iL_mul, iL_neg, iI_lt, iI_le, iI_eq, iL_lt, iL_le, iL_eqS, iI_c, iI_ok, iI_l, iL_i, iI_low, l_ushrI, l_shlI, l_shrI, i_shlI, i_shrI, i_ushrI, iI_div, iL_div, Int.toNat_natCast, Int.reduceToNat, iI_ofNat]; omega)]
        have eF : rndF δ (K : Int) = incF δ K := by unfold rndF; rw [if_neg (by omega), Int.toNat_natCast, if_pos (by omega)]
        have eC : rndC δ (K : Int) = incC δ K := by unfold rndC; rw [if_neg (by omega), Int.toNat_natCast, if_pos (by omega)]
        rw [eF, eC]
        by_cases q4 : K = 0
        · subst q4
          rw [if_pos (show iI ((0 : Nat) : Int) = 0 from rfl), if_pos (show gx_ok (0 : Int32) 1300 = true from by decide)]
          refine ⟨1, upd c' 0 (iI 1), ?_, ?_, ?_⟩
          · show some ((1 : Int32), iI p + 1, upd c' 0 (iI 1)) = some (iI ((1 : Nat) : Int), iI (p + 1), upd c' 0 (iI 1))
            rw [show (1 : Int32) = iI 1 from rfl, iI_add]; rfl
          · refine ⟨rfl, by omega, fun i hi => ?_, fun i hi => ?_, fun i => incF_le h4 0 i⟩
            · have : i = 0 := by omega
              subst this
              show upd c' 0 _ 0 = _
              rw [upd_s]; rfl
            · show one1 i = 0
              unfold one1; rw [if_neg (by omega)]
          · constructor
            · intro w; omega
            · intro w; rcases w with w | w | w <;> omega
        · rw [if_neg (show ¬ iI (K : Int) = 0 from by simp (disch := omega) only [iI_lit, iL_lit, iI_add, iI_sub, iI_mul, iI_neg, iL_add, iL_sub, iL_mul, iL_neg, iI_lt, iI_le, iI_eq, iL_lt, iL_le, iL_eqS, iI_c, iI_ok, iI_l, iL_i, iI_low, l_ushrI, l_shlI, l_shrI, i_shlI, i_shrI, i_ushrI, iI_div, iL_div, Int.toNat_natCast, Int.reduceToNat, iI_ofNat]; omega)]
          obtain ⟨n', c2, e2, g1, g2, g3, g4⟩ := more_spec h4 (n := K) (p := p) (by omega) hc'
          rw [e2, Option.bind_some]
          refine ⟨n', c2, rfl, ⟨rfl, by omega, g1, g4, fun i => incF_le h4 K i⟩, ?_⟩
          constructor
          · intro w; omega
          · intro w; rcases w with w | w | w <;> omega
-- XC
set_option maxRecDepth 10000 in
theorem madd_spec {bl : Int32} {bc : Nat → Int32} {E : List Int32} (h : TP bl bc E) (hE : E.length < 12000) (x : Int32) : ∃ bl' bc', f_Md_add x bl bc = some (bl', bc') ∧ TP bl' bc' (E ++ [sb x]) := by
  obtain ⟨rfl, h2, h3⟩ := h
  unfold f_Md_add
  rw [if_pos (show gx_ok (iI (E.length : Int)) 12000 = true from by simp (disch := omega) only [iI_lit, iL_lit, iI_add, iI_sub, iI_mul, iI_neg, iL_add, iL_sub, iL_mul, iL_neg, iI_lt, iI_le, iI_eq, iL_lt, iL_le, iL_eqS, iI_c, iI_ok, iI_l, iL_i, iI_low, l_ushrI, l_shlI, l_shrI, i_shlI, i_shrI, i_ushrI, iI_div, iL_div, Int.toNat_natCast, Int.reduceToNat, iI_ofNat]; omega), iI_c (by omega) (by omega), Int.toNat_natCast, nar_b]
  refine ⟨_, _, rfl, ?_, ?_, ?_⟩
  · rw [show (1 : Int32) = iI 1 from rfl, iI_add, List.length_append]; rfl
  · intro i y hy
    by_cases w : i < E.length
    · rw [List.getElem?_append_left w] at hy
      rw [upd_n (by omega)]
      exact h2 i y hy
    · rw [List.getElem?_append_right (by omega)] at hy
      have : i - E.length = 0 := by
        rcases Nat.eq_zero_or_pos (i - E.length) with q | q
        · exact q
        · rw [List.getElem?_eq_none (by simp; omega)] at hy; exact absurd hy (by simp)
      rw [this] at hy
      have hi : i = E.length := by omega
      rw [hi, upd_s]
      simpa using hy
  · intro y hy
    rw [List.mem_append] at hy
    rcases hy with hy | hy
    · exact h3 y hy
    · simp at hy; rw [hy]; exact sb_sb x
set_option maxRecDepth 10000 in
theorem madd_i {bl : Int32} {bc : Nat → Int32} {E : List Int32} (h : TP bl bc E) (hE : E.length < 12000) {a : Int} (a0 : 0 ≤ a) (a1 : a < 128) : ∃ bl' bc', f_Md_add (iI a) bl bc = some (bl', bc') ∧ TP bl' bc' (E ++ [iI a]) := by
  have := madd_spec h hE (iI a)
  rwa [sb_small (by omega) (by omega)] at this
set_option maxRecDepth 10000 in
theorem mdig_spec {n : Nat} {c : Nat → Int32} {δ : Nat → Nat} (h : DL 1300 (iI n) c n δ) {i : Int} (h0 : -1000000 ≤ i) (h1 : i ≤ 1000000) : f_Md_digit (iI i) (iI n) c = some (iI (48 + dg δ i)) := by
  obtain ⟨_, g1, g2, g3, g4⟩ := h
  unfold f_Md_digit f_Md_digit_24 dg
  by_cases q : i < 0
  · rw [if_pos (show iI i < 0 from by simp (disch := omega) only [iI_lit, iL_lit, iI_add, iI_sub, iI_mul, iI_neg, iL_add, iL_sub, iL_mul, iL_neg, iI_lt, iI_le, iI_eq, iL_lt, iL_le, iL_eqS, iI_c, iI_ok, iI_l, iL_i, iI_low, l_ushrI, l_shlI, l_shrI, i_shlI, i_shrI, i_ushrI, iI_div, iL_div, Int.toNat_natCast, Int.reduceToNat, iI_ofNat]; omega), if_neg (by omega)]; rfl
  · obtain ⟨k, rfl⟩ : ∃ k : Nat, i = (k : Int) := ⟨i.toNat, by omega⟩
    rw [if_neg (show ¬ iI (k : Int) < 0 from by simp (disch := omega) only [iI_lit, iL_lit, iI_add, iI_sub, iI_mul, iI_neg, iL_add, iL_sub, iL_mul, iL_neg, iI_lt, iI_le, iI_eq, iL_lt, iL_le, iL_eqS, iI_c, iI_ok, iI_l, iL_i, iI_low, l_ushrI, l_shlI, l_shrI, i_shlI, i_shrI, i_ushrI, iI_div, iL_div, Int.toNat_natCast, Int.reduceToNat, iI_ofNat]; omega), if_pos (show (0 : Int) ≤ (k : Int) by omega), Int.toNat_natCast]
    by_cases w : n ≤ k
    · rw [if_pos (show iI (n : Int) ≤ iI (k : Int) from by simp (disch := omega) only [iI_lit, iL_lit, iI_add, iI_sub, iI_mul, iI_neg, iL_add, iL_sub, iL_mul, iL_neg, iI_lt, iI_le, iI_eq, iL_lt, iL_le, iL_eqS, iI_c, iI_ok, iI_l, iL_i, iI_low, l_ushrI, l_shlI, l_shrI, i_shlI, i_shrI, i_ushrI, iI_div, iL_div, Int.toNat_natCast, Int.reduceToNat, iI_ofNat]; omega), g3 k w]; rfl
    · rw [if_neg (show ¬ iI (n : Int) ≤ iI (k : Int) from by simp (disch := omega) only [iI_lit, iL_lit, iI_add, iI_sub, iI_mul, iI_neg, iL_add, iL_sub, iL_mul, iL_neg, iI_lt, iI_le, iI_eq, iL_lt, iL_le, iL_eqS, iI_c, iI_ok, iI_l, iL_i, iI_low, l_ushrI, l_shlI, l_shrI, i_shlI, i_shrI, i_ushrI, iI_div, iL_div, Int.toNat_natCast, Int.reduceToNat, iI_ofNat]; omega), if_pos (show gx_ok (iI (k : Int)) 1300 = true from by simp (disch := omega) only [iI_lit, iL_lit, iI_add, iI_sub, iI_mul, iI_neg, iL_add, iL_sub, iL_mul, iL_neg, iI_lt, iI_le, iI_eq, iL_lt, iL_le, iL_eqS, iI_c, iI_ok, iI_l, iL_i, iI_low, l_ushrI, l_shlI, l_shrI, i_shlI, i_shrI, i_ushrI, iI_div, iL_div, Int.toNat_natCast, Int.reduceToNat, iI_ofNat]; omega), iI_c (by omega) (by omega), Int.toNat_natCast, g2 k (by omega), show (48 : Int32) = iI 48 from rfl, iI_add]
set_option maxRecDepth 10000 in
def pntE (a : Int) (sh : Prop) [Decidable sh] : List Int32 := if 0 < a ∨ sh then [iI 46] else []
set_option maxRecDepth 10000 in
def expE (e : Int) : List Int32 := [iI 101, iI (if 0 ≤ e then 43 else 45)] ++ numE (if 0 ≤ e then e else -e) 2
set_option maxRecDepth 10000 in
theorem numE2 {v : Int} (h0 : 0 ≤ v) (h1 : v ≤ 999) : numE v 2 = (if 99 < v then [iI (48 + v / 100)] else []) ++ ([iI (48 + v / 10 % 10)] ++ [iI (48 + v % 10)]) := by
  unfold numE numAt
  rw [if_neg (show ¬ ((1000 : Int) ≤ v ∨ (4 : Int) ≤ 2) by omega), if_pos (show (10 : Int) ≤ v ∨ (2 : Int) ≤ 2 by omega), if_pos (show (1 : Int) ≤ v ∨ (1 : Int) ≤ 2 by omega), Int.ediv_one, List.nil_append]
  congr 1
  by_cases q : 99 < v
  · rw [if_pos (show (100 : Int) ≤ v ∨ (3 : Int) ≤ 2 by omega), if_pos q, show v / 100 % 10 = v / 100 by omega]
  · rw [if_neg (show ¬ ((100 : Int) ≤ v ∨ (3 : Int) ≤ 2) by omega), if_neg q]
set_option maxRecDepth 10000 in
theorem msci106 {e : Int} (h0 : -999 ≤ e) (h1 : e ≤ 999) {bl : Int32} {bc : Nat → Int32} {E : List Int32} (h : TP bl bc E) (hE : E.length + 10 < 12000) (an ap cn cp : Int32) (ad cd : Nat → Int32) :
    ∃ bl' bc', f_Md_scientific_106 (iI e) an ap ad cn cp cd bl bc = some (cn, cp, cd, bl', bc') ∧ TP bl' bc' (E ++ expE e) := by
  unfold f_Md_scientific_106 f_Md_scientific_127 f_Md_scientific_143 f_Md_scientific_164
  obtain ⟨b1, c1, e1, t1⟩ := madd_i h (by omega) (a := 101) (by omega) (by omega)
  rw [show (101 : Int32) = iI 101 from rfl, e1, Option.bind_some, show (43 : Int32) = iI 43 from rfl, show (45 : Int32) = iI 45 from rfl, iI_neg]
  -- one road for both signs
  have main : ∀ s v : Int, 0 ≤ s → s < 128 → 0 ≤ v → v ≤ 999 → ∃ bl' bc', ((f_Md_add (iI s) b1 c1).bind fun u127 => if iI v ≤ (99 : Int32) then ((f_Md_add ((48 : Int32) + ((iI v / (10 : Int32)) - (iI v / (10 : Int32)) / (10 : Int32) * (10 : Int32))) u127.1 u127.2).bind fun u176 => (f_Md_add ((48 : Int32) + (iI v - iI v / (10 : Int32) * (10 : Int32))) u176.1 u176.2).bind fun u188 => some (cn, cp, cd, u188.1, u188.2)) else ((f_Md_add ((48 : Int32) + (iI v / (100 : Int32))) u127.1 u127.2).bind fun u161 => (f_Md_add ((48 : Int32) + ((iI v / (10 : Int32)) - (iI v / (10 : Int32)) / (10 : Int32) * (10 : Int32))) u161.1 u161.2).bind fun u176 => (f_Md_add ((48 : Int32) + (iI v - iI v / (10 : Int32) * (10 : Int32))) u176.1 u176.2).bind fun u188 => some (cn, cp, cd, u188.1, u188.2))) = some (cn, cp, cd, bl', bc') ∧ TP bl' bc' (E ++ ([iI 101, iI s] ++ numE v 2)) := by
    intro s v s0 s1 v0 v1
    obtain ⟨b2, c2, e2, t2⟩ := madd_i t1 (by simp; omega) (a := s) s0 s1
    rw [e2, Option.bind_some]
    have d1 : (48 : Int32) + ((iI v / (10 : Int32)) - (iI v / (10 : Int32)) / (10 : Int32) * (10 : Int32)) = iI (48 + v / 10 % 10) := by
      rw [show (48 : Int32) = iI 48 from rfl, show (10 : Int32) = iI 10 from rfl, iI_div (by omega) (by omega) (by omega) (by omega), iI_div (by omega) (by omega) (by omega) (by omega), iI_mul, iI_sub, iI_add]
      congr 1; omega
    have d2 : (48 : Int32) + (iI v - iI v / (10 : Int32) * (10 : Int32)) = iI (48 + v % 10) := by
      rw [show (48 : Int32) = iI 48 from rfl, show (10 : Int32) = iI 10 from rfl, iI_div (by omega) (by omega) (by omega) (by omega), iI_mul, iI_sub, iI_add]
      congr 1; omega
    have d3 : (48 : Int32) + (iI v / (100 : Int32)) = iI (48 + v / 100) := by
      rw [show (48 : Int32) = iI 48 from rfl, show (100 : Int32) = iI 100 from rfl, iI_div (by omega) (by omega) (by omega) (by omega), iI_add]
    rw [d1, d2, d3, numE2 v0 v1]
    by_cases q : 99 < v
    · rw [if_neg (show ¬ iI v ≤ 99 from by simp (disch := omega) only [iI_lit, iL_lit, iI_add, iI_sub, iI_mul, iI_neg, iL_add, iL_sub, iL_mul, iL_neg, iI_lt, iI_le, iI_eq, iL_lt, iL_le, iL_eqS, iI_c, iI_ok, iI_l, iL_i, iI_low, l_ushrI, l_shlI, l_shrI, i_shlI, i_shrI, i_ushrI, iI_div, iL_div, Int.toNat_natCast, Int.reduceToNat, iI_ofNat]; omega), if_pos q]
      obtain ⟨b3, c3, e3, t3⟩ := madd_i t2 (by simp; omega) (a := 48 + v / 100) (by omega) (by omega)
      obtain ⟨b4, c4, e4, t4⟩ := madd_i t3 (by simp; omega) (a := 48 + v / 10 % 10) (by omega) (by omega)
      obtain ⟨b5, c5, e5, t5⟩ := madd_i t4 (by simp; omega) (a := 48 + v % 10) (by omega) (by omega)
      rw [e3, Option.bind_some, e4, Option.bind_some, e5, Option.bind_some]
      refine ⟨_, _, rfl, ?_⟩
      have : E ++ ([iI 101, iI s] ++ ([iI (48 + v / 100)] ++ ([iI (48 + v / 10 % 10)] ++ [iI (48 + v % 10)]))) = E ++ [iI 101] ++ [iI s] ++ [iI (48 + v / 100)] ++ [iI (48 + v / 10 % 10)] ++ [iI (48 + v % 10)] := by simp
      rw [this]; exact t5
    · rw [if_pos (show iI v ≤ 99 from by simp (disch := omega) only [iI_lit, iL_lit, iI_add, iI_sub, iI_mul, iI_neg, iL_add, iL_sub, iL_mul, iL_neg, iI_lt, iI_le, iI_eq, iL_lt, iL_le, iL_eqS, iI_c, iI_ok, iI_l, iL_i, iI_low, l_ushrI, l_shlI, l_shrI, i_shlI, i_shrI, i_ushrI, iI_div, iL_div, Int.toNat_natCast, Int.reduceToNat, iI_ofNat]; omega), if_neg q, List.nil_append]
      obtain ⟨b4, c4, e4, t4⟩ := madd_i t2 (by simp; omega) (a := 48 + v / 10 % 10) (by omega) (by omega)
      obtain ⟨b5, c5, e5, t5⟩ := madd_i t4 (by simp; omega) (a := 48 + v % 10) (by omega) (by omega)
      rw [e4, Option.bind_some, e5, Option.bind_some]
      refine ⟨_, _, rfl, ?_⟩
      have : E ++ ([iI 101, iI s] ++ ([iI (48 + v / 10 % 10)] ++ [iI (48 + v % 10)])) = E ++ [iI 101] ++ [iI s] ++ [iI (48 + v / 10 % 10)] ++ [iI (48 + v % 10)] := by simp
      rw [this]; exact t5
  unfold expE
  by_cases q : 0 ≤ e
  · have hh : (0 : Int32) ≤ iI e := by simp (disch := omega) only [iI_lit, iL_lit, iI_add, iI_sub, iI_mul, iI_neg, iL_add, iL_sub, iL_mul, iL_neg, iI_lt, iI_le, iI_eq, iL_lt, iL_le, iL_eqS, iI_c, iI_ok, iI_l, iL_i, iI_low, l_ushrI, l_shlI, l_shrI, i_shlI, i_shrI, i_ushrI, iI_div, iL_div, Int.toNat_natCast, Int.reduceToNat, iI_ofNat]; omega
    simp only [if_pos hh, if_pos q]
    exact main 43 e (by omega) (by omega) q (by omega)
  · have hh : ¬ (0 : Int32) ≤ iI e := by simp (disch := omega) only [iI_lit, iL_lit, iI_add, iI_sub, iI_mul, iI_neg, iL_add, iL_sub, iL_mul, iL_neg, iI_lt, iI_le, iI_eq, iL_lt, iL_le, iL_eqS, iI_c, iI_ok, iI_l, iL_i, iI_low, l_ushrI, l_shlI, l_shrI, i_shlI, i_shrI, i_ushrI, iI_div, iL_div, Int.toNat_natCast, Int.reduceToNat, iI_ofNat]; omega
    simp only [if_neg hh, if_neg q]
    exact main 45 (-e) (by omega) (by omega) (by omega) (by omega)
