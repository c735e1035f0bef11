-- UU
set_option maxRecDepth 10000 in
abbrev T9 := Int32 × Int32 × Int32 × Int32 × (Nat → Int32) × Int32 × Int32 × Int32 × Int32
set_option maxRecDepth 10000 in
theorem md347 {N : Nat} {t : Int32} {c : Nat → Int32} {X : List Int32} (h : TP t c X) (hX : X.length ≤ N) (hN : N ≤ 900000) {p : Nat} (hp : p ≤ X.length) (w pr : Int32) (fl : Nat → Int32) (ix ag gv cv : Int32) :
    (CNV (hq X p) → f_Md_directive_347 N (iI p) (iI X.length) c w pr fl ix ag gv cv = some (1, iI ((p + 1 : Nat) : Int), w, pr, fl, ix, ag, gv, iI (hq X p))) ∧ (¬ CNV (hq X p) → ∃ r : T9, f_Md_directive_347 N (iI p) (iI X.length) c w pr fl ix ag gv cv = some r ∧ r.1 = 0) := by
  unfold f_Md_directive_347
  by_cases q : p < X.length
  · have hok : gx_ok (iI (p : Int)) N = true := by simp (disch := omega) only [iI_lit, iL_lit, iI_add, iI_sub, iI_mul, iI_neg, iL_add, iL_sub, iL_mul, iL_neg, iI_lt, iI_le, iI_eq, iL_lt, iL_le, iL_eqS, iI_c, iI_ok, iI_l, iL_i, iI_low, l_ushrI, l_shlI, l_shrI, i_shlI, i_shrI, i_ushrI, iI_div, iL_div, Int.toNat_natCast, Int.reduceToNat, iI_ofNat]; omega
    obtain ⟨a, a0, a1, ea, eh⟩ := fm_at h q
    rw [if_neg (show ¬ iI (X.length : Int) ≤ iI (p : Int) from by simp (disch := omega) only [iI_lit, iL_lit, iI_add, iI_sub, iI_mul, iI_neg, iL_add, iL_sub, iL_mul, iL_neg, iI_lt, iI_le, iI_eq, iL_lt, iL_le, iL_eqS, iI_c, iI_ok, iI_l, iL_i, iI_low, l_ushrI, l_shlI, l_shrI, i_shlI, i_shrI, i_ushrI, iI_div, iL_div, Int.toNat_natCast, Int.reduceToNat, iI_ofNat]; omega)]
    simp only [if_pos hok]
    rw [iI_c (by omega) (by omega), Int.toNat_natCast, ea, e1N]
    by_cases q1 : a ≤ 0
    · rw [if_pos (show iI a ≤ 0 from by simp (disch := omega) only [iI_lit, iL_lit, iI_add, iI_sub, iI_mul, iI_neg, iL_add, iL_sub, iL_mul, iL_neg, iI_lt, iI_le, iI_eq, iL_lt, iL_le, iL_eqS, iI_c, iI_ok, iI_l, iL_i, iI_low, l_ushrI, l_shlI, l_shrI, i_shlI, i_shrI, i_ushrI, iI_div, iL_div, Int.toNat_natCast, Int.reduceToNat, iI_ofNat]; omega)]
      refine ⟨fun y => ?_, fun _ => ⟨_, rfl, rfl⟩⟩
      have := CNV_b y
      rw [eh] at this
      split at this <;> omega
    · rw [if_neg (show ¬ iI a ≤ 0 from by simp (disch := omega) only [iI_lit, iL_lit, iI_add, iI_sub, iI_mul, iI_neg, iL_add, iL_sub, iL_mul, iL_neg, iI_lt, iI_le, iI_eq, iL_lt, iL_le, iL_eqS, iI_c, iI_ok, iI_l, iL_i, iI_low, l_ushrI, l_shlI, l_shrI, i_shlI, i_shrI, i_ushrI, iI_div, iL_div, Int.toNat_natCast, Int.reduceToNat, iI_ofNat]; omega)]
      rw [if_pos (show 0 ≤ a by omega)] at eh
      obtain ⟨b, rfl⟩ : ∃ b : Nat, a = (b : Int) := ⟨a.toNat, by omega⟩
      obtain ⟨x, e, hx⟩ := ix49_all ⟨b, by omega⟩
      simp only at e hx
      rw [e, Option.bind_some, eh]
      by_cases q2 : CNV (b : Int)
      · rw [if_pos (hx.mpr q2)]
        exact ⟨fun _ => rfl, fun y => absurd q2 y⟩
      · rw [if_neg (fun y => q2 (hx.mp y))]
        exact ⟨fun y => absurd y q2, fun _ => ⟨_, rfl, rfl⟩⟩
  · rw [if_pos (show iI (X.length : Int) ≤ iI (p : Int) from by simp (disch := omega) only [iI_lit, iL_lit, iI_add, iI_sub, iI_mul, iI_neg, iL_add, iL_sub, iL_mul, iL_neg, iI_lt, iI_le, iI_eq, iL_lt, iL_le, iL_eqS, iI_c, iI_ok, iI_l, iL_i, iI_low, l_ushrI, l_shlI, l_shrI, i_shlI, i_shrI, i_ushrI, iI_div, iL_div, Int.toNat_natCast, Int.reduceToNat, iI_ofNat]; omega)]
    refine ⟨fun y => ?_, fun _ => ⟨_, rfl, rfl⟩⟩
    have := CNV_b y
    rw [hq_out (by omega)] at this
    omega
set_option maxRecDepth 10000 in
theorem md276 {N : Nat} {t : Int32} {c : Nat → Int32} {X : List Int32} (h : TP t c X) (hX : X.length ≤ N) (hN : N ≤ 900000) {p : Nat} (hp : p ≤ X.length) (w0 : Int32) (fl : Nat → Int32) (ix ag gv cv : Int32) {wd : Int} {p2 : Nat} (hwd : wd = if (dN X p).2 = p then -1 else (dN X p).1) (hp2 : p2 = (dN X p).2) :
    ((wd ≤ 9999 ∧ -1 ≤ qPr X p2 ∧ qPr X p2 ≤ 9999 ∧ CNV (hq X (qP3 X p2))) → f_Md_directive_276 N (iI p) (iI X.length) c w0 (-1) fl ix ag gv cv = some (1, iI ((qP3 X p2 + 1 : Nat) : Int), iI wd, iI (qPr X p2), fl, ix, ag, gv, iI (hq X (qP3 X p2)))) ∧ (¬ (wd ≤ 9999 ∧ -1 ≤ qPr X p2 ∧ qPr X p2 ≤ 9999 ∧ CNV (hq X (qP3 X p2))) → ∃ r : T9, f_Md_directive_276 N (iI p) (iI X.length) c w0 (-1) fl ix ag gv cv = some r ∧ r.1 = 0) := by
  have hd := dN_b X p
  unfold f_Md_directive_276
  rw [mdigits_spec h hX hN hp, Option.bind_some]
  dsimp only
  have hm : mN X p = if wd ≤ 9999 then wd else -2 := by
    unfold mN
    rw [hwd]
    split
    · rw [if_pos (by omega)]
    · rfl
  rw [hm, ← hp2]
  have hwb : -1 ≤ wd ∧ wd ≤ 10000 := by rw [hwd]; split <;> omega
  by_cases q1 : wd ≤ 9999
  · rw [if_pos q1, if_neg (show ¬ iI wd = -2 from by rw [show (-2 : Int32) = iI (-2) from rfl, iI_eq (by omega) (by omega) (by omega) (by omega)]; omega)]
    by_cases q : p2 < X.length
    · have hok : gx_ok (iI (p2 : Int)) N = true := by simp (disch := omega) only [iI_lit, iL_lit, iI_add, iI_sub, iI_mul, iI_neg, iL_add, iL_sub, iL_mul, iL_neg, iI_lt, iI_le, iI_eq, iL_lt, iL_le, iL_eqS, iI_c, iI_ok, iI_l, iL_i, iI_low, l_ushrI, l_shlI, l_shrI, i_shlI, i_shrI, i_ushrI, iI_div, iL_div, Int.toNat_natCast, Int.reduceToNat, iI_ofNat]; omega
      obtain ⟨a, a0, a1, ea, eh⟩ := fm_at h q
      rw [if_neg (show ¬ iI (X.length : Int) ≤ iI (p2 : Int) from by simp (disch := omega) only [iI_lit, iL_lit, iI_add, iI_sub, iI_mul, iI_neg, iL_add, iL_sub, iL_mul, iL_neg, iI_lt, iI_le, iI_eq, iL_lt, iL_le, iL_eqS, iI_c, iI_ok, iI_l, iL_i, iI_low, l_ushrI, l_shlI, l_shrI, i_shlI, i_shrI, i_ushrI, iI_div, iL_div, Int.toNat_natCast, Int.reduceToNat, iI_ofNat]; omega), if_pos hok, iI_c (by omega) (by omega), Int.toNat_natCast, ea]
      have h46 : (iI a = (46 : Int32)) = (hq X p2 = 46) := by
        rw [show (46 : Int32) = iI 46 from rfl, iI_eq (by omega) (by omega) (by omega) (by omega), eh]
        exact propext (by split <;> omega)
      simp only [h46]
      by_cases q2 : hq X p2 = 46
      · have eP : qPr X p2 = if (dN X (p2 + 1)).2 = p2 + 1 then -5 else (dN X (p2 + 1)).1 := if_pos q2
        have e3 : qP3 X p2 = (dN X (p2 + 1)).2 := if_pos q2
        have hd2 := dN_b X (p2 + 1)
        rw [if_pos q2, e1N, mdigits_spec h hX hN (by omega), Option.bind_some]
        dsimp only
        have hm2 : mN X (p2 + 1) = if qPr X p2 = -5 then -1 else if qPr X p2 ≤ 9999 then qPr X p2 else -2 := by
          unfold mN
          rw [eP]
          by_cases z : (dN X (p2 + 1)).2 = p2 + 1
          · rw [if_pos z, if_pos z, if_pos rfl]
          · rw [if_neg z, if_neg z, if_neg (show ¬ (dN X (p2 + 1)).1 = -5 by omega)]
        by_cases q3 : -1 ≤ qPr X p2 ∧ qPr X p2 ≤ 9999
        · have hge : 0 ≤ qPr X p2 := by rw [eP] at q3 ⊢; split at q3 <;> (split <;> omega)
          rw [hm2, if_neg (show ¬ qPr X p2 = -5 by omega), if_pos q3.2, if_pos (show (0 : Int32) ≤ iI (qPr X p2) from by simp (disch := omega) only [iI_lit, iL_lit, iI_add, iI_sub, iI_mul, iI_neg, iL_add, iL_sub, iL_mul, iL_neg, iI_lt, iI_le, iI_eq, iL_lt, iL_le, iL_eqS, iI_c, iI_ok, iI_l, iL_i, iI_low, l_ushrI, l_shlI, l_shrI, i_shlI, i_shrI, i_ushrI, iI_div, iL_div, Int.toNat_natCast, Int.reduceToNat, iI_ofNat]; omega)]
          have := md347 h hX hN (p := qP3 X p2) (by omega) (iI wd) (iI (qPr X p2)) fl ix ag gv cv
          rw [← e3]
          exact ⟨fun y => this.1 y.2.2.2, fun y => this.2 (fun z => y ⟨q1, q3.1, q3.2, z⟩)⟩
        · have hneg : ¬ (0 : Int32) ≤ iI (mN X (p2 + 1)) := by
            rw [hm2]
            split
            · decide
            · split
              · rename_i z1 z2
                exfalso
                have : -5 ≤ qPr X p2 ∧ (qPr X p2 = -5 ∨ 0 ≤ qPr X p2) := by rw [eP]; split <;> omega
                omega
              · decide
          rw [if_neg hneg]
          exact ⟨fun y => absurd ⟨y.2.1, y.2.2.1⟩ q3, fun _ => ⟨_, rfl, rfl⟩⟩
      · have eP : qPr X p2 = -1 := if_neg q2
        have e3 : qP3 X p2 = p2 := if_neg q2
        rw [if_neg q2]
        have := md347 h hX hN (p := p2) (by omega) (iI wd) (-1) fl ix ag gv cv
        rw [eP, e3]
        exact ⟨fun y => this.1 y.2.2.2, fun y => this.2 (fun z => y ⟨q1, by omega, by omega, z⟩)⟩
    · have h46 : hq X p2 = -1 := hq_out (by omega)
      have eP : qPr X p2 = -1 := if_neg (by omega)
      have e3 : qP3 X p2 = p2 := if_neg (by omega)
      rw [if_pos (show iI (X.length : Int) ≤ iI (p2 : Int) from by simp (disch := omega) only [iI_lit, iL_lit, iI_add, iI_sub, iI_mul, iI_neg, iL_add, iL_sub, iL_mul, iL_neg, iI_lt, iI_le, iI_eq, iL_lt, iL_le, iL_eqS, iI_c, iI_ok, iI_l, iL_i, iI_low, l_ushrI, l_shlI, l_shrI, i_shlI, i_shrI, i_ushrI, iI_div, iL_div, Int.toNat_natCast, Int.reduceToNat, iI_ofNat]; omega)]
      have := md347 h hX hN (p := p2) (by omega) (iI wd) (-1) fl ix ag gv cv
      rw [eP, e3]
      exact ⟨fun y => this.1 y.2.2.2, fun y => this.2 (fun z => y ⟨q1, by omega, by omega, z⟩)⟩
  · rw [if_neg q1, if_pos (show iI (-2) = -2 from rfl)]
    exact ⟨fun y => absurd y.1 q1, fun _ => ⟨_, rfl, rfl⟩⟩
set_option maxRecDepth 10000 in
theorem md17 {N : Nat} {p e w pr ix ag gv cv : Int32} {c : Nat → Int32} : ∀ (d k v : Nat) (fl : Nat → Int32), v + d = 7 → d + 1 ≤ k → (∀ x, x < v → fl x = iI 0) → ∃ fl' k', (∀ x, x < 7 → fl' x = iI 0) ∧ f_Md_directive_17 k (iI v) N p e c w pr fl ix ag gv cv = f_Md_directive_17 (k' + 1) 7 N p e c w pr fl' ix ag gv cv := by
  intro d
  induction d with
  | zero =>
    intro k v fl hd hk hz
    obtain ⟨k, rfl⟩ : ∃ x, k = x + 1 := ⟨k - 1, by omega⟩
    have : v = 7 := by omega
    subst this
    exact ⟨fl, k, hz, rfl⟩
  | succ d ih =>
    intro k v fl hd hk hz
    obtain ⟨k, rfl⟩ : ∃ x, k = x + 1 := ⟨k - 1, by omega⟩
    have hok : gx_ok (iI (v : Int)) 7 = true := by simp (disch := omega) only [iI_lit, iL_lit, iI_add, iI_sub, iI_mul, iI_neg, iL_add, iL_sub, iL_mul, iL_neg, iI_lt, iI_le, iI_eq, iL_lt, iL_le, iL_eqS, iI_c, iI_ok, iI_l, iL_i, iI_low, l_ushrI, l_shlI, l_shrI, i_shlI, i_shrI, i_ushrI, iI_div, iL_div, Int.toNat_natCast, Int.reduceToNat, iI_ofNat]; omega
    obtain ⟨fl', k', h1, h2⟩ := ih k (v + 1) (upd fl v 0) (by omega) (by omega) (fun x hx => by
      unfold upd
      split
      · rfl
      · exact hz x (by omega))
    refine ⟨fl', k', h1, ?_⟩
    rw [← h2]
    conv => lhs; unfold f_Md_directive_17
    rw [if_neg (show ¬ (7 : Int32) ≤ iI (v : Int) from by simp (disch := omega) only [iI_lit, iL_lit, iI_add, iI_sub, iI_mul, iI_neg, iL_add, iL_sub, iL_mul, iL_neg, iI_lt, iI_le, iI_eq, iL_lt, iL_le, iL_eqS, iI_c, iI_ok, iI_l, iL_i, iI_low, l_ushrI, l_shlI, l_shrI, i_shlI, i_shrI, i_ushrI, iI_div, iL_div, Int.toNat_natCast, Int.reduceToNat, iI_ofNat]; omega), if_pos hok, iI_c (by omega) (by omega), Int.toNat_natCast, e1N]
set_option maxRecDepth 10000 in
def dIm (X : List Int32) (p : Nat) : Int := if 1 ≤ (ixP X p).1 then (ixP X p).1 else -1
set_option maxRecDepth 10000 in
def dAg (X : List Int32) (p : Nat) : Int := if (ixP X p).1 = -1 then 1 else 0
set_option maxRecDepth 10000 in
def dGv (X : List Int32) (p : Nat) : Int := if (ixP X p).1 = 0 then 0 else 1
set_option maxRecDepth 10000 in
theorem mdir_spec {N : Nat} {t : Int32} {c : Nat → Int32} {X : List Int32} (h : TP t c X) (hX : X.length ≤ N) (hN : N ≤ 900000) {p : Nat} (hp : p ≤ X.length) (w0 pr0 : Int32) (fl0 : Nat → Int32) (ix0 ag0 gv0 cv0 : Int32) :
    (DOK X p → ∃ fl, (∀ x, x < 7 → fl x = iI (dCt X p x)) ∧ f_Md_directive N (iI p) (iI X.length) c w0 pr0 fl0 ix0 ag0 gv0 cv0 = some (1, iI ((dP3 X p + 1 : Nat) : Int), iI (dWd X p), iI (dPr X p), fl, iI (dIm X p), iI (dAg X p), iI (dGv X p), iI (dCv X p))) ∧
    (¬ DOK X p → ∃ r : T9, f_Md_directive N (iI p) (iI X.length) c w0 pr0 fl0 ix0 ag0 gv0 cv0 = some r ∧ r.1 = 0) := by
  obtain ⟨i0, i1, i2, i3⟩ := ixP_b hp
  obtain ⟨fl, k', hfl, e17⟩ := md17 (N := N) (p := iI p) (e := iI X.length) (w := w0) (pr := pr0) (ix := -1) (ag := 0) (gv := 0) (cv := cv0) (c := c) 7 gx_fu 0 fl0 (by omega) (by have := fu_big; omega) (fun x hx => by omega)
  have e17' : f_Md_directive N (iI p) (iI X.length) c w0 pr0 fl0 ix0 ag0 gv0 cv0 = _ := e17
  rw [e17']
  unfold f_Md_directive_17
  rw [if_pos (show (7 : Int32) ≤ 7 from by decide)]
  -- from the flags on
  have thr2 : (ixP X p).1 ≤ 9999 → ((DOK X p → ∃ fl', (∀ x, x < 7 → fl' x = iI (dCt X p x)) ∧ f_Md_directive_202 gx_fu N (iI ((ixP X p).2 : Nat)) (iI X.length) c (-1) (-1) fl (iI (dIm X p)) (iI (dAg X p)) (iI (dGv X p)) cv0 = some (1, iI ((dP3 X p + 1 : Nat) : Int), iI (dWd X p), iI (dPr X p), fl', iI (dIm X p), iI (dAg X p), iI (dGv X p), iI (dCv X p))) ∧ (¬ DOK X p → ∃ r : T9, f_Md_directive_202 gx_fu N (iI ((ixP X p).2 : Nat)) (iI X.length) c (-1) (-1) fl (iI (dIm X p)) (iI (dAg X p)) (iI (dGv X p)) cv0 = some r ∧ r.1 = 0)) := by
    intro hix
    obtain ⟨fl', hfl', e⟩ := mflags_loop h hX hN (-1) (-1) (iI (dIm X p)) (iI (dAg X p)) (iI (dGv X p)) cv0 (X.length - (ixP X p).2) gx_fu (ixP X p).2 (fun _ => 0) fl (by omega) (by have := fu_big; omega) hfl
    rw [e]
    have hb := fN_b i3
    have := md276 h hX hN (p := dPf X p) (by unfold dPf; omega) (-1) fl' (iI (dIm X p)) (iI (dAg X p)) (iI (dGv X p)) cv0 (wd := dWd X p) (p2 := dP2 X p) rfl rfl
    exact ⟨fun y => ⟨fl', hfl', this.1 ⟨y.2.1, y.2.2.1, y.2.2.2.1, y.2.2.2.2⟩⟩, fun y => this.2 (fun z => y ⟨hix, z⟩)⟩
  have plain : ixP X p = (0, p) → ((DOK X p → ∃ fl', (∀ x, x < 7 → fl' x = iI (dCt X p x)) ∧ f_Md_directive_202 gx_fu N (iI p) (iI X.length) c (-1) (-1) fl (-1) 0 0 cv0 = some (1, iI ((dP3 X p + 1 : Nat) : Int), iI (dWd X p), iI (dPr X p), fl', iI (dIm X p), iI (dAg X p), iI (dGv X p), iI (dCv X p))) ∧ (¬ DOK X p → ∃ r : T9, f_Md_directive_202 gx_fu N (iI p) (iI X.length) c (-1) (-1) fl (-1) 0 0 cv0 = some r ∧ r.1 = 0)) := by
    intro he
    have := thr2 (by rw [he]; dsimp only; omega)
    have a1 : iI (dIm X p) = -1 := by unfold dIm; rw [he]; rfl
    have a2 : iI (dAg X p) = 0 := by unfold dAg; rw [he]; rfl
    have a3 : iI (dGv X p) = 0 := by unfold dGv; rw [he]; rfl
    rw [a1, a2, a3] at this
    rw [he] at this
    rw [a1, a2, a3]
    exact this
  have again : ixP X p = (-1, p + 1) → ((DOK X p → ∃ fl', (∀ x, x < 7 → fl' x = iI (dCt X p x)) ∧ f_Md_directive_202 gx_fu N (iI ((p + 1 : Nat) : Int)) (iI X.length) c (-1) (-1) fl (-1) 1 1 cv0 = some (1, iI ((dP3 X p + 1 : Nat) : Int), iI (dWd X p), iI (dPr X p), fl', iI (dIm X p), iI (dAg X p), iI (dGv X p), iI (dCv X p))) ∧ (¬ DOK X p → ∃ r : T9, f_Md_directive_202 gx_fu N (iI ((p + 1 : Nat) : Int)) (iI X.length) c (-1) (-1) fl (-1) 1 1 cv0 = some r ∧ r.1 = 0)) := by
    intro he
    have := thr2 (by rw [he]; dsimp only; omega)
    have a1 : iI (dIm X p) = -1 := by unfold dIm; rw [he]; rfl
    have a2 : iI (dAg X p) = 1 := by unfold dAg; rw [he]; rfl
    have a3 : iI (dGv X p) = 1 := by unfold dGv; rw [he]; rfl
    rw [a1, a2, a3] at this
    rw [he] at this
    rw [a1, a2, a3]
    exact this
  by_cases q : p < X.length
  · have hok : gx_ok (iI (p : Int)) N = true := by simp (disch := omega) only [iI_lit, iL_lit, iI_add, iI_sub, iI_mul, iI_neg, iL_add, iL_sub, iL_mul, iL_neg, iI_lt, iI_le, iI_eq, iL_lt, iL_le, iL_eqS, iI_c, iI_ok, iI_l, iL_i, iI_low, l_ushrI, l_shlI, l_shrI, i_shlI, i_shrI, i_ushrI, iI_div, iL_div, Int.toNat_natCast, Int.reduceToNat, iI_ofNat]; omega
    obtain ⟨a, a0, a1, ea, eh⟩ := fm_at h q
    rw [if_neg (show ¬ iI (X.length : Int) ≤ iI (p : Int) from by simp (disch := omega) only [iI_lit, iL_lit, iI_add, iI_sub, iI_mul, iI_neg, iL_add, iL_sub, iL_mul, iL_neg, iI_lt, iI_le, iI_eq, iL_lt, iL_le, iL_eqS, iI_c, iI_ok, iI_l, iL_i, iI_low, l_ushrI, l_shlI, l_shrI, i_shlI, i_shrI, i_ushrI, iI_div, iL_div, Int.toNat_natCast, Int.reduceToNat, iI_ofNat]; omega)]
    unfold f_Md_directive_157 f_Md_directive_149 f_Md_directive_154
    simp only [if_pos hok, if_neg (show ¬ iI (X.length : Int) ≤ iI (p : Int) from by simp (disch := omega) only [iI_lit, iL_lit, iI_add, iI_sub, iI_mul, iI_neg, iL_add, iL_sub, iL_mul, iL_neg, iI_lt, iI_le, iI_eq, iL_lt, iL_le, iL_eqS, iI_c, iI_ok, iI_l, iL_i, iI_low, l_ushrI, l_shlI, l_shrI, i_shlI, i_shrI, i_ushrI, iI_div, iL_div, Int.toNat_natCast, Int.reduceToNat, iI_ofNat]; omega)]
    rw [iI_c (by omega) (by omega), Int.toNat_natCast, ea, e1N]
    have h60 : (iI a = (60 : Int32)) = (hq X p = 60) := by
      rw [show (60 : Int32) = iI 60 from rfl, iI_eq (by omega) (by omega) (by omega) (by omega), eh]
      exact propext (by split <;> omega)
    simp only [h60]
    have nodig : ¬ (49 ≤ hq X p ∧ hq X p ≤ 57) → ((DOK X p → ∃ fl', (∀ x, x < 7 → fl' x = iI (dCt X p x)) ∧ (if hq X p = 60 then f_Md_directive_202 gx_fu N (iI ((p + 1 : Nat) : Int)) (iI X.length) c (-1) (-1) fl (-1) 1 1 cv0 else f_Md_directive_202 gx_fu N (iI p) (iI X.length) c (-1) (-1) fl (-1) 0 0 cv0) = some (1, iI ((dP3 X p + 1 : Nat) : Int), iI (dWd X p), iI (dPr X p), fl', iI (dIm X p), iI (dAg X p), iI (dGv X p), iI (dCv X p))) ∧ (¬ DOK X p → ∃ r : T9, (if hq X p = 60 then f_Md_directive_202 gx_fu N (iI ((p + 1 : Nat) : Int)) (iI X.length) c (-1) (-1) fl (-1) 1 1 cv0 else f_Md_directive_202 gx_fu N (iI p) (iI X.length) c (-1) (-1) fl (-1) 0 0 cv0) = some r ∧ r.1 = 0)) := by
      intro nd
      by_cases q6 : hq X p = 60
      · simp only [if_pos q6]; exact again (by unfold ixP; rw [if_pos q6])
      · simp only [if_neg q6]; exact plain (by unfold ixP; rw [if_neg q6, if_neg nd])
    by_cases q1 : a < 49
    · rw [if_pos (show iI a < 49 from by simp (disch := omega) only [iI_lit, iL_lit, iI_add, iI_sub, iI_mul, iI_neg, iL_add, iL_sub, iL_mul, iL_neg, iI_lt, iI_le, iI_eq, iL_lt, iL_le, iL_eqS, iI_c, iI_ok, iI_l, iL_i, iI_low, l_ushrI, l_shlI, l_shrI, i_shlI, i_shrI, i_ushrI, iI_div, iL_div, Int.toNat_natCast, Int.reduceToNat, iI_ofNat]; omega)]
      exact nodig (by rw [eh]; split <;> omega)
    rw [if_neg (show ¬ iI a < 49 from by simp (disch := omega) only [iI_lit, iL_lit, iI_add, iI_sub, iI_mul, iI_neg, iL_add, iL_sub, iL_mul, iL_neg, iI_lt, iI_le, iI_eq, iL_lt, iL_le, iL_eqS, iI_c, iI_ok, iI_l, iL_i, iI_low, l_ushrI, l_shlI, l_shrI, i_shlI, i_shrI, i_ushrI, iI_div, iL_div, Int.toNat_natCast, Int.reduceToNat, iI_ofNat]; omega)]
    rw [if_pos (show 0 ≤ a by omega)] at eh
    by_cases q2 : 57 < a
    · rw [if_pos (show (57 : Int32) < iI a from by simp (disch := omega) only [iI_lit, iL_lit, iI_add, iI_sub, iI_mul, iI_neg, iL_add, iL_sub, iL_mul, iL_neg, iI_lt, iI_le, iI_eq, iL_lt, iL_le, iL_eqS, iI_c, iI_ok, iI_l, iL_i, iI_low, l_ushrI, l_shlI, l_shrI, i_shlI, i_shrI, i_ushrI, iI_div, iL_div, Int.toNat_natCast, Int.reduceToNat, iI_ofNat]; omega)]
      exact nodig (by omega)
    rw [if_neg (show ¬ (57 : Int32) < iI a from by simp (disch := omega) only [iI_lit, iL_lit, iI_add, iI_sub, iI_mul, iI_neg, iL_add, iL_sub, iL_mul, iL_neg, iI_lt, iI_le, iI_eq, iL_lt, iL_le, iL_eqS, iI_c, iI_ok, iI_l, iL_i, iI_low, l_ushrI, l_shlI, l_shrI, i_shlI, i_shrI, i_ushrI, iI_div, iL_div, Int.toNat_natCast, Int.reduceToNat, iI_ofNat]; omega), mdigits_spec h hX hN hp, Option.bind_some]
    dsimp only
    have qd : 49 ≤ hq X p ∧ hq X p ≤ 57 := by omega
    have n60 : ¬ hq X p = 60 := by omega
    have hd := dN_b X p
    have hd1 := dN_1 (X := X) (i := p) (by omega)
    by_cases q3 : (dN X p).2 < X.length
    · have hok3 : gx_ok (iI ((dN X p).2 : Int)) N = true := by simp (disch := omega) only [iI_lit, iL_lit, iI_add, iI_sub, iI_mul, iI_neg, iL_add, iL_sub, iL_mul, iL_neg, iI_lt, iI_le, iI_eq, iL_lt, iL_le, iL_eqS, iI_c, iI_ok, iI_l, iL_i, iI_low, l_ushrI, l_shlI, l_shrI, i_shlI, i_shrI, i_ushrI, iI_div, iL_div, Int.toNat_natCast, Int.reduceToNat, iI_ofNat]; omega
      obtain ⟨b, b0, b1, eb, ehb⟩ := fm_at h q3
      rw [if_neg (show ¬ iI (X.length : Int) ≤ iI ((dN X p).2 : Int) from by simp (disch := omega) only [iI_lit, iL_lit, iI_add, iI_sub, iI_mul, iI_neg, iL_add, iL_sub, iL_mul, iL_neg, iI_lt, iI_le, iI_eq, iL_lt, iL_le, iL_eqS, iI_c, iI_ok, iI_l, iL_i, iI_low, l_ushrI, l_shlI, l_shrI, i_shlI, i_shrI, i_ushrI, iI_div, iL_div, Int.toNat_natCast, Int.reduceToNat, iI_ofNat]; omega), if_pos hok3, iI_c (by omega) (by omega), Int.toNat_natCast, eb]
      have h36 : (iI b = (36 : Int32)) = (hq X (dN X p).2 = 36) := by
        rw [show (36 : Int32) = iI 36 from rfl, iI_eq (by omega) (by omega) (by omega) (by omega), ehb]
        exact propext (by split <;> omega)
      simp only [h36]
      by_cases q4 : hq X (dN X p).2 = 36
      · have he : ixP X p = ((dN X p).1, (dN X p).2 + 1) := by unfold ixP; rw [if_neg n60, if_pos qd, if_pos q4]
        simp only [if_pos q4]
        have hm : mN X p = if (dN X p).1 ≤ 9999 then (dN X p).1 else -2 := by unfold mN; rw [if_neg (by omega)]
        by_cases q5 : (dN X p).1 ≤ 9999
        · rw [hm, if_pos q5]
          simp only [if_pos (show (0 : Int32) ≤ iI (dN X p).1 from by simp (disch := omega) only [iI_lit, iL_lit, iI_add, iI_sub, iI_mul, iI_neg, iL_add, iL_sub, iL_mul, iL_neg, iI_lt, iI_le, iI_eq, iL_lt, iL_le, iL_eqS, iI_c, iI_ok, iI_l, iL_i, iI_low, l_ushrI, l_shlI, l_shrI, i_shlI, i_shrI, i_ushrI, iI_div, iL_div, Int.toNat_natCast, Int.reduceToNat, iI_ofNat]; omega)]
          have hpos : 1 ≤ (dN X p).1 := by
            unfold dN
            obtain ⟨d, hd⟩ : ∃ d, X.length - p = d + 1 := ⟨X.length - p - 1, by omega⟩
            rw [hd]
            unfold rdN
            rw [if_pos (by omega)]
            have mono : ∀ (d : Nat) (v : Int) (i : Nat), 1 ≤ v → v ≤ 10000 → 1 ≤ (rdN X d v i).1 := by
              intro d
              induction d with
              | zero => intro v i hv _; exact hv
              | succ d ih =>
                intro v i hv hv2
                unfold rdN
                split
                · exact ih _ _ (by omega) (by omega)
                · exact hv
            exact mono d _ _ (by omega) (by omega)
          have := thr2 (by rw [he]; exact q5)
          have a1 : iI (dIm X p) = iI (dN X p).1 := by unfold dIm; rw [he]; dsimp only; rw [if_pos hpos]
          have a2 : iI (dAg X p) = 0 := by unfold dAg; rw [he]; dsimp only; rw [if_neg (by omega)]; rfl
          have a3 : iI (dGv X p) = 1 := by unfold dGv; rw [he]; dsimp only; rw [if_neg (by omega)]; rfl
          rw [a1, a2, a3] at this
          rw [he] at this
          rw [a1, a2, a3, e1N]
          exact this
        · rw [hm, if_neg q5]
          simp only [if_neg (show ¬ (0 : Int32) ≤ iI (-2) from by decide)]
          refine ⟨fun y => ?_, fun _ => ⟨_, rfl, rfl⟩⟩
          have := y.1
          rw [he] at this
          exact absurd this q5
      · simp only [if_neg q4]
        exact plain (by unfold ixP; rw [if_neg n60, if_pos qd, if_neg q4])
    · rw [if_pos (show iI (X.length : Int) ≤ iI ((dN X p).2 : Int) from by simp (disch := omega) only [iI_lit, iL_lit, iI_add, iI_sub, iI_mul, iI_neg, iL_add, iL_sub, iL_mul, iL_neg, iI_lt, iI_le, iI_eq, iL_lt, iL_le, iL_eqS, iI_c, iI_ok, iI_l, iL_i, iI_low, l_ushrI, l_shlI, l_shrI, i_shlI, i_shrI, i_ushrI, iI_div, iL_div, Int.toNat_natCast, Int.reduceToNat, iI_ofNat]; omega)]
      have q4 : ¬ hq X (dN X p).2 = 36 := by rw [hq_out (by omega)]; decide
      exact plain (by unfold ixP; rw [if_neg n60, if_pos qd, if_neg q4])
  · have h0 := hq_out (X := X) (i := p) (by omega)
    rw [if_pos (show iI (X.length : Int) ≤ iI (p : Int) from by simp (disch := omega) only [iI_lit, iL_lit, iI_add, iI_sub, iI_mul, iI_neg, iL_add, iL_sub, iL_mul, iL_neg, iI_lt, iI_le, iI_eq, iL_lt, iL_le, iL_eqS, iI_c, iI_ok, iI_l, iL_i, iI_low, l_ushrI, l_shlI, l_shrI, i_shlI, i_shrI, i_ushrI, iI_div, iL_div, Int.toNat_natCast, Int.reduceToNat, iI_ofNat]; omega)]
    unfold f_Md_directive_157
    rw [if_pos (show iI (X.length : Int) ≤ iI (p : Int) from by simp (disch := omega) only [iI_lit, iL_lit, iI_add, iI_sub, iI_mul, iI_neg, iL_add, iL_sub, iL_mul, iL_neg, iI_lt, iI_le, iI_eq, iL_lt, iL_le, iL_eqS, iI_c, iI_ok, iI_l, iL_i, iI_low, l_ushrI, l_shlI, l_shrI, i_shlI, i_shrI, i_ushrI, iI_div, iL_div, Int.toNat_natCast, Int.reduceToNat, iI_ofNat]; omega)]
    exact plain (by unfold ixP; rw [if_neg (by omega), if_neg (by omega)])
-- UV
set_option maxRecDepth 10000 in
def sk (X : List Int32) : Nat → Nat → Nat
  | 0, i => i
  | d + 1, i => if hq X i = 37 then i else sk X d (i + 1)
set_option maxRecDepth 10000 in
def sK (X : List Int32) (p : Nat) : Nat := sk X (X.length - p) p
set_option maxRecDepth 10000 in
theorem sk_b (X : List Int32) : ∀ d i, i ≤ sk X d i ∧ sk X d i ≤ i + d
  | 0, i => by unfold sk; omega
  | d + 1, i => by
    unfold sk
    split
    · omega
    · have := sk_b X d (i + 1); omega
set_option maxRecDepth 10000 in
theorem sK_b {X : List Int32} {p : Nat} (h : p ≤ X.length) : p ≤ sK X p ∧ sK X p ≤ X.length := by
  have := sk_b X (X.length - p) p
  unfold sK; omega
set_option maxRecDepth 10000 in
theorem sK_at {X : List Int32} {p : Nat} (h : hq X p = 37) : sK X p = p := by
  have := hq_in (X := X) (i := p) (by omega)
  unfold sK
  obtain ⟨d, hd⟩ : ∃ d, X.length - p = d + 1 := ⟨X.length - p - 1, by omega⟩
  rw [hd]; unfold sk; rw [if_pos h]
set_option maxRecDepth 10000 in
theorem sK_no {X : List Int32} {p : Nat} (hp : p < X.length) (h : hq X p ≠ 37) : sK X p = sK X (p + 1) := by
  unfold sK
  obtain ⟨d, hd⟩ : ∃ d, X.length - p = d + 1 := ⟨X.length - p - 1, by omega⟩
  rw [hd, show X.length - (p + 1) = d by omega]
  conv => lhs; unfold sk
  rw [if_neg h]
set_option maxRecDepth 10000 in
theorem sk_hq (X : List Int32) : ∀ d i, sk X d i < i + d → hq X (sk X d i) = 37
  | 0, i, h => by unfold sk at h; omega
  | d + 1, i, h => by
    unfold sk at h ⊢
    split
    · assumption
    · rename_i q; rw [if_neg q] at h; exact sk_hq X d (i + 1) (by omega)
set_option maxRecDepth 10000 in
theorem sK_hq {X : List Int32} {p : Nat} (h : sK X p < X.length) (hp : p ≤ X.length) : hq X (sK X p) = 37 := by
  unfold sK at h ⊢; exact sk_hq X _ _ (by omega)
set_option maxRecDepth 10000 in
def dirs (X : List Int32) : Nat → Nat → List Nat × Option Nat
  | 0, p => ([], none)
  | d + 1, p => if sK X p < X.length then (if DOK X (sK X p + 1) then (sK X p :: (dirs X d (dP3 X (sK X p + 1) + 1)).1, (dirs X d (dP3 X (sK X p + 1) + 1)).2) else ([], some (sK X p))) else ([], none)
set_option maxRecDepth 10000 in
theorem dirs_eq {X : List Int32} {p q : Nat} (h : sK X p = sK X q) : ∀ d, dirs X d p = dirs X d q
  | 0 => rfl
  | d + 1 => by unfold dirs; rw [h]
set_option maxRecDepth 10000 in
abbrev FM1 (X : List Int32) (wc ic pc cc fl pl ac : Nat → Int32) (i k : Nat) : Prop := (wc i = iI (dWd X (k + 1))) ∧ (ic i = iI (ixP X (k + 1)).1) ∧ (pc i = iI (dPr X (k + 1))) ∧ (cc i = iI (dCv X (k + 1))) ∧ (∃ m, FLX m (dCt X (k + 1)) ∧ fl i = iI m) ∧ (pl i = iI k) ∧ (ac i = iI ((dP3 X (k + 1) + 1 : Nat) : Int))
set_option maxRecDepth 10000 in
theorem FM1.w {X : List Int32} {wc ic pc cc fl pl ac : Nat → Int32} {i k : Nat} (h_ : FM1 X wc ic pc cc fl pl ac i k) : wc i = iI (dWd X (k + 1)) := h_.1
set_option maxRecDepth 10000 in
theorem FM1.x {X : List Int32} {wc ic pc cc fl pl ac : Nat → Int32} {i k : Nat} (h_ : FM1 X wc ic pc cc fl pl ac i k) : ic i = iI (ixP X (k + 1)).1 := h_.2.1
set_option maxRecDepth 10000 in
theorem FM1.p {X : List Int32} {wc ic pc cc fl pl ac : Nat → Int32} {i k : Nat} (h_ : FM1 X wc ic pc cc fl pl ac i k) : pc i = iI (dPr X (k + 1)) := h_.2.2.1
set_option maxRecDepth 10000 in
theorem FM1.c {X : List Int32} {wc ic pc cc fl pl ac : Nat → Int32} {i k : Nat} (h_ : FM1 X wc ic pc cc fl pl ac i k) : cc i = iI (dCv X (k + 1)) := h_.2.2.2.1
set_option maxRecDepth 10000 in
theorem FM1.f {X : List Int32} {wc ic pc cc fl pl ac : Nat → Int32} {i k : Nat} (h_ : FM1 X wc ic pc cc fl pl ac i k) : ∃ m, FLX m (dCt X (k + 1)) ∧ fl i = iI m := h_.2.2.2.2.1
set_option maxRecDepth 10000 in
theorem FM1.l {X : List Int32} {wc ic pc cc fl pl ac : Nat → Int32} {i k : Nat} (h_ : FM1 X wc ic pc cc fl pl ac i k) : pl i = iI k := h_.2.2.2.2.2.1
set_option maxRecDepth 10000 in
theorem FM1.a {X : List Int32} {wc ic pc cc fl pl ac : Nat → Int32} {i k : Nat} (h_ : FM1 X wc ic pc cc fl pl ac i k) : ac i = iI ((dP3 X (k + 1) + 1 : Nat) : Int) := h_.2.2.2.2.2.2
set_option maxRecDepth 10000 in
def FMT (X : List Int32) (wc ic pc cc fl pl ac : Nat → Int32) (L : List Nat) : Prop := ∀ i k, L[i]? = some k → FM1 X wc ic pc cc fl pl ac i k
set_option maxRecDepth 10000 in
theorem FMT_add {X : List Int32} {wc ic pc cc fl pl ac : Nat → Int32} {L : List Nat} (h : FMT X wc ic pc cc fl pl ac L) {k m : Nat} (hF : FLX m (dCt X (k + 1))) : FMT X (upd wc L.length (iI (dWd X (k + 1)))) (upd ic L.length (iI (ixP X (k + 1)).1)) (upd pc L.length (iI (dPr X (k + 1)))) (upd cc L.length (iI (dCv X (k + 1)))) (upd fl L.length (iI m)) (upd pl L.length (iI k)) (upd ac L.length (iI ((dP3 X (k + 1) + 1 : Nat) : Int))) (L ++ [k]) := by
  intro i k' hi
  by_cases q : i < L.length
  · rw [List.getElem?_append_left q] at hi
    obtain ⟨a1, a2, a3, a4, a5, a6, a7⟩ := h i k' hi
    have hne : i ≠ L.length := by omega
    exact ⟨by rw [upd_n hne, a1], by rw [upd_n hne, a2], by rw [upd_n hne, a3], by rw [upd_n hne, a4], by rw [upd_n hne]; exact a5, by rw [upd_n hne, a6], by rw [upd_n hne, a7]⟩
  · rw [List.getElem?_append_right (by omega)] at hi
    have hz : i - L.length = 0 := by
      by_cases z : i - L.length = 0
      · exact z
      · rw [List.getElem?_eq_none (by simp; omega)] at hi; cases hi
    rw [hz] at hi
    simp at hi
    subst hi
    have : i = L.length := by omega
    subst this
    exact ⟨upd_s _ _ _, upd_s _ _ _, upd_s _ _ _, upd_s _ _ _, ⟨m, hF, upd_s _ _ _⟩, upd_s _ _ _, upd_s _ _ _⟩
set_option maxRecDepth 10000 in
theorem fwrong_loop {n : Nat} (hn : n ≤ 1000) {len over : Int32} {c : Nat → Int32} {X : List Int32} (h : BY n len over c X) (hX : X.length ≤ n) : ∀ (r m v p D : Nat) (at_ : Nat) (L : List Nat) (wc ic pc cc fl pl ac : Nat → Int32), v + r = X.length → r < m → p = max v at_ → p ≤ X.length → X.length < D + p → 2 * L.length ≤ p → FMT X wc ic pc cc fl pl ac L →
    ∃ q : T10, f_Fm_firstWrong_12 m (iI v) n len (iI at_) c (iI L.length) wc ic pc cc fl pl ac = some q ∧ (∀ k, (dirs X D p).2 = some k → q.1 = iI k) ∧ ((dirs X D p).2 = none → q.1 = -1 ∧ q.2.2.1 = iI ((L ++ (dirs X D p).1).length : Nat) ∧ FMT X q.2.2.2.1 q.2.2.2.2.1 q.2.2.2.2.2.1 q.2.2.2.2.2.2.1 q.2.2.2.2.2.2.2.1 q.2.2.2.2.2.2.2.2.1 q.2.2.2.2.2.2.2.2.2 (L ++ (dirs X D p).1)) := by
  have hlen : len = iI (X.length : Int) := by rw [h.1]; congr 2; omega
  intro r
  induction r with
  | zero =>
    intro m v p D at_ L wc ic pc cc fl pl ac hr hm hp hpX hD hL hF
    obtain ⟨m, rfl⟩ : ∃ x, m = x + 1 := ⟨m - 1, by omega⟩
    unfold f_Fm_firstWrong_12
    rw [if_pos (show len ≤ iI (v : Int) from by rw [hlen]; simp (disch := omega) only [iI_lit, iL_lit, iI_add, iI_sub, iI_mul, iI_neg, iL_add, iL_sub, iL_mul, iL_neg, iI_lt, iI_le, iI_eq, iL_lt, iL_le, iL_eqS, iI_c, iI_ok, iI_l, iL_i, iI_low, l_ushrI, l_shlI, l_shrI, i_shlI, i_shrI, i_ushrI, iI_div, iL_div, Int.toNat_natCast, Int.reduceToNat, iI_ofNat]; omega)]
    have he : dirs X D p = ([], none) := by
      cases D with
      | zero => rfl
      | succ D =>
        unfold dirs
        have := sK_b hpX
        rw [if_neg (by omega)]
    rw [he]
    refine ⟨_, rfl, ?_, ?_⟩
    · intro k hk; simp at hk
    · intro _; exact ⟨rfl, by simp, by simpa using hF⟩
  | succ r ih =>
    intro m v p D at_ L wc ic pc cc fl pl ac hr hm hp hpX hD hL hF
    obtain ⟨m, rfl⟩ : ∃ x, m = x + 1 := ⟨m - 1, by omega⟩
    unfold f_Fm_firstWrong_12 f_Fm_firstWrong_54
    rw [if_neg (show ¬ len ≤ iI (v : Int) from by rw [hlen]; simp (disch := omega) only [iI_lit, iL_lit, iI_add, iI_sub, iI_mul, iI_neg, iL_add, iL_sub, iL_mul, iL_neg, iI_lt, iI_le, iI_eq, iL_lt, iL_le, iL_eqS, iI_c, iI_ok, iI_l, iL_i, iI_low, l_ushrI, l_shlI, l_shrI, i_shlI, i_shrI, i_ushrI, iI_div, iL_div, Int.toNat_natCast, Int.reduceToNat, iI_ofNat]; omega)]
    by_cases q : v < at_
    · rw [if_pos (show iI (v : Int) < iI (at_ : Int) from by simp (disch := omega) only [iI_lit, iL_lit, iI_add, iI_sub, iI_mul, iI_neg, iL_add, iL_sub, iL_mul, iL_neg, iI_lt, iI_le, iI_eq, iL_lt, iL_le, iL_eqS, iI_c, iI_ok, iI_l, iL_i, iI_low, l_ushrI, l_shlI, l_shrI, i_shlI, i_shrI, i_ushrI, iI_div, iL_div, Int.toNat_natCast, Int.reduceToNat, iI_ofNat]; omega), e1N]
      exact ih m (v + 1) p D at_ L wc ic pc cc fl pl ac (by omega) (by omega) (by omega) hpX hD hL hF
    · rw [if_neg (show ¬ iI (v : Int) < iI (at_ : Int) from by simp (disch := omega) only [iI_lit, iL_lit, iI_add, iI_sub, iI_mul, iI_neg, iL_add, iL_sub, iL_mul, iL_neg, iI_lt, iI_le, iI_eq, iL_lt, iL_le, iL_eqS, iI_c, iI_ok, iI_l, iL_i, iI_low, l_ushrI, l_shlI, l_shrI, i_shlI, i_shrI, i_ushrI, iI_div, iL_div, Int.toNat_natCast, Int.reduceToNat, iI_ofNat]; omega)]
      have hpv : p = v := by omega
      subst hpv
      have hb := hq_b X p
      have h37 : (iI (hq X p) = (37 : Int32)) = (hq X p = 37) := by rw [show (37 : Int32) = iI 37 from rfl, iI_eq (by omega) (by omega) (by omega) (by omega)]
      rw [bat_q (by omega) h hX (by omega), Option.bind_some]
      simp only [h37]
      by_cases q2 : hq X p = 37
      · rw [if_pos q2]
        obtain ⟨D, rfl⟩ : ∃ x, D = x + 1 := ⟨D - 1, by omega⟩
        have hs := sK_at q2
        have rd := rdir_spec (by omega) h hX (j := L.length) (by omega) (s := p) (by omega) (iI at_) wc ic pc cc fl pl ac
        by_cases q3 : DOK X (p + 1)
        · obtain ⟨mm, hFm, e⟩ := rd.1 q3
          rw [e, Option.bind_some]
          dsimp only
          rw [if_neg (show ¬ (1 : Int32) = 0 from by decide), e1N]
          have hin := DOK_in q3
          have hP := dP_b (X := X) (p := p + 1) (by omega)
          have he : dirs X (D + 1) p = (p :: (dirs X D (dP3 X (p + 1) + 1)).1, (dirs X D (dP3 X (p + 1) + 1)).2) := by
            conv => lhs; unfold dirs
            rw [hs, if_pos (by omega), if_pos q3]
          have hF' := FMT_add hF (k := p) hFm
          have := ih m (p + 1) (dP3 X (p + 1) + 1) D (dP3 X (p + 1) + 1) (L ++ [p]) _ _ _ _ _ _ _ (by omega) (by omega) (by omega) (by omega) (by omega) (by simp; omega) hF'
          rw [he]
          rw [List.length_append, List.length_singleton, List.append_assoc, List.singleton_append] at this
          exact this
        · obtain ⟨rr, e, hz⟩ := rd.2 q3
          rw [e, Option.bind_some, if_pos hz]
          have he : dirs X (D + 1) p = ([], some p) := by
            conv => lhs; unfold dirs
            rw [hs, if_pos (by omega), if_neg q3]
          rw [he]
          refine ⟨_, rfl, ?_, ?_⟩
          · intro k hk; simp at hk; rw [hk]
          · intro hk; simp at hk
      · rw [if_neg q2, e1N]
        rw [dirs_eq (sK_no (by omega) q2) D]
        exact ih m (p + 1) (p + 1) D at_ L wc ic pc cc fl pl ac (by omega) (by omega) (by omega) (by omega) (by omega) (by omega) hF
set_option maxRecDepth 10000 in
def dirL (X : List Int32) : List Nat × Option Nat := dirs X (X.length + 1) 0
set_option maxRecDepth 10000 in
theorem firstWrong_spec {len over : Int32} {c : Nat → Int32} {X : List Int32} (h : BY 1000 len over c X) (hX : X.length ≤ 1000) (at0 nd0 : Int32) (wc ic pc cc fl pl ac : Nat → Int32) :
    ∃ q : T10, f_Fm_firstWrong 1000 len at0 c nd0 wc ic pc cc fl pl ac = some q ∧ (∀ k, (dirL X).2 = some k → q.1 = iI k) ∧ ((dirL X).2 = none → q.1 = -1 ∧ q.2.2.1 = iI ((dirL X).1.length : Nat) ∧ FMT X q.2.2.2.1 q.2.2.2.2.1 q.2.2.2.2.2.1 q.2.2.2.2.2.2.1 q.2.2.2.2.2.2.2.1 q.2.2.2.2.2.2.2.2.1 q.2.2.2.2.2.2.2.2.2 (dirL X).1) :=
  fwrong_loop (n := 1000) (by omega) h hX X.length gx_fu 0 0 (X.length + 1) 0 [] wc ic pc cc fl pl ac (by omega) (by have := fu_big; omega) (by omega) (by omega) (by omega) (by simp) (fun i k hi => by simp at hi)
-- UW
set_option maxRecDepth 10000 in
def alM (cv : Int) : Nat := if cv = 65 then 31 else if cv = 69 then 95 else if cv = 71 then 125 else if cv = 88 then 19 else if cv = 97 then 31 else if cv = 100 then 125 else if cv = 101 then 95 else if cv = 102 then 127 else if cv = 103 then 125 else if cv = 110 then 0 else if cv = 111 then 19 else if cv = 120 then 19 else 1
set_option maxRecDepth 10000 in
theorem allowed_all : ∀ b : Fin 128, f_Fm_allowedFlags (iI (b.val : Int)) = some (iI (alM b.val : Nat)) := by decide +kernel
set_option maxRecDepth 10000 in
theorem alM_m {cv : Int} : alM cv = 31 ∨ alM cv = 95 ∨ alM cv = 125 ∨ alM cv = 19 ∨ alM cv = 127 ∨ alM cv = 0 ∨ alM cv = 1 := by
  unfold alM
  (repeat' split) <;> simp
set_option maxRecDepth 10000 in
def BAR (ct : Nat → Int) (wd pr cv ix : Int) : Prop :=
  (∃ i, i < 7 ∧ 2 ≤ ct i) ∨ (∃ i, i < 7 ∧ 1 ≤ ct i ∧ (alM cv).testBit i = false) ∨ (1 ≤ ct 0 ∧ 1 ≤ ct 4) ∨ (1 ≤ ct 2 ∧ 1 ≤ ct 3) ∨ ((1 ≤ ct 0 ∨ 1 ≤ ct 4) ∧ wd = -1) ∨ (pr ≠ -1 ∧ inW 50 cv) ∨ (cv = 110 ∧ wd ≠ -1) ∨ ((cv = 37 ∨ cv = 110) ∧ ix ≠ 0)
set_option maxRecDepth 10000 in
def noM (m M : Nat) : Bool := m.testBit 7 == false && (!(m.testBit 0) || M.testBit 0) && (!(m.testBit 1) || M.testBit 1) && (!(m.testBit 2) || M.testBit 2) && (!(m.testBit 3) || M.testBit 3) && (!(m.testBit 4) || M.testBit 4) && (!(m.testBit 5) || M.testBit 5) && (!(m.testBit 6) || M.testBit 6)
set_option maxRecDepth 10000 in
theorem mask_all : ∀ m : Fin 256, ∀ M ∈ [31, 95, 125, 19, 127, 0, 1], ((iI (m.val : Int) &&& (iI (M : Nat) ^^^ (-1)) = 0) ↔ noM m.val M = true) := by decide +kernel
set_option maxRecDepth 10000 in
theorem both_all : ∀ m : Fin 256, (f_Fm_hasBoth (iI (m.val : Int)) 17 = some (if m.val.testBit 0 && m.val.testBit 4 then 1 else 0)) ∧ (f_Fm_hasBoth (iI (m.val : Int)) 12 = some (if m.val.testBit 2 && m.val.testBit 3 then 1 else 0)) ∧ ((iI (m.val : Int) &&& 17 = 0) ↔ (m.val.testBit 0 || m.val.testBit 4) = false) := by decide +kernel
set_option maxRecDepth 10000 in
theorem noM_ct {m : Nat} {ct : Nat → Int} (h : FLX m ct) (M : Nat) : noM m M = true ↔ ¬ ((∃ i, i < 7 ∧ 2 ≤ ct i) ∨ (∃ i, i < 7 ∧ 1 ≤ ct i ∧ M.testBit i = false)) := by
  obtain ⟨_, h2, h3, h4⟩ := h
  unfold noM
  simp only [Bool.and_eq_true, Bool.or_eq_true, Bool.not_eq_true', beq_iff_eq]
  constructor
  · rintro ⟨⟨⟨⟨⟨⟨⟨a7, a0⟩, a1⟩, a2⟩, a3⟩, a4⟩, a5⟩, a6⟩ (y | ⟨i, hi, hc, hM⟩)
    · rw [h3.mpr y] at a7; cases a7
    · have hb := (h2 i hi).mpr hc
      have : ∀ j, (m.testBit j = false ∨ M.testBit j = true) → m.testBit j = true → M.testBit j = true := by
        intro j y z
        rcases y with y | y
        · rw [y] at z; cases z
        · exact y
      have hM' : M.testBit i = true := by
        have : i = 0 ∨ i = 1 ∨ i = 2 ∨ i = 3 ∨ i = 4 ∨ i = 5 ∨ i = 6 := by omega
        rcases this with rfl | rfl | rfl | rfl | rfl | rfl | rfl
        · exact this _ a0 hb
        · exact this _ a1 hb
        · exact this _ a2 hb
        · exact this _ a3 hb
        · exact this _ a4 hb
        · exact this _ a5 hb
        · exact this _ a6 hb
      rw [hM'] at hM; cases hM
  · intro hn
    have one : ∀ i, i < 7 → (m.testBit i = false ∨ M.testBit i = true) := by
      intro i hi
      by_cases q : m.testBit i = true
      · right
        by_cases z : M.testBit i = true
        · exact z
        · exact absurd (Or.inr ⟨i, hi, (h2 i hi).mp q, by simpa using z⟩) hn
      · left; simpa using q
    refine ⟨⟨⟨⟨⟨⟨⟨?_, one 0 (by omega)⟩, one 1 (by omega)⟩, one 2 (by omega)⟩, one 3 (by omega)⟩, one 4 (by omega)⟩, one 5 (by omega)⟩, one 6 (by omega)⟩
    by_cases q : m.testBit 7 = true
    · exact absurd (Or.inl (h3.mp q)) hn
    · simpa using q
set_option maxRecDepth 10000 in
theorem has33_all : ∀ b : Fin 128, f_Fm_has 33 (iI (b.val : Int)) = some (if inW 50 b.val then 1 else 0) := by decide +kernel
set_option maxRecDepth 10000 in
theorem isBarred_spec {i : Nat} (hi : i < 500) {cc fl pc ic wc : Nat → Int32} {ct : Nat → Int} {wd pr cv ix : Int} {m : Nat} (hcv : CNV cv) (hm : FLX m ct) (h1 : cc i = iI cv) (h2 : fl i = iI m) (h3 : pc i = iI pr) (h4 : ic i = iI ix) (h5 : wc i = iI wd) (w0 : -1 ≤ wd) (w1 : wd ≤ 10000) (p0 : -1 ≤ pr) (p1 : pr ≤ 10000) (x0 : -1 ≤ ix) (x1 : ix ≤ 10000) :
    (BAR ct wd pr cv ix → f_Fm_isBarred (iI i) cc fl pc ic wc = some 1) ∧ (¬ BAR ct wd pr cv ix → f_Fm_isBarred (iI i) cc fl pc ic wc = some 0) := by
  have hok : gx_ok (iI (i : Int)) 500 = true := by simp (disch := omega) only [iI_lit, iL_lit, iI_add, iI_sub, iI_mul, iI_neg, iL_add, iL_sub, iL_mul, iL_neg, iI_lt, iI_le, iI_eq, iL_lt, iL_le, iL_eqS, iI_c, iI_ok, iI_l, iL_i, iI_low, l_ushrI, l_shlI, l_shrI, i_shlI, i_shrI, i_ushrI, iI_div, iL_div, Int.toNat_natCast, Int.reduceToNat, iI_ofNat]; omega
  obtain ⟨c0, c1⟩ := CNV_b hcv
  unfold f_Fm_isBarred f_Fm_isBarred_79 f_Fm_isBarred_100 f_Fm_isBarred_118 f_Fm_isBarred_139 f_Fm_takesArgument f_Fm_takesArgument_26
  simp only [if_pos hok]
  rw [iI_c (by omega) (by omega), Int.toNat_natCast, h1, h2, h3, h4, h5]
  obtain ⟨cN, rfl⟩ : ∃ x : Nat, cv = (x : Int) := ⟨cv.toNat, by omega⟩
  rw [allowed_all ⟨cN, by omega⟩, Option.bind_some]
  have mk := mask_all ⟨m, hm.1⟩ (alM cN) (by rcases alM_m (cv := (cN : Int)) with y | y | y | y | y | y | y <;> rw [y] <;> decide)
  simp only at mk
  obtain ⟨b1, b2, b3⟩ := both_all ⟨m, hm.1⟩
  simp only at b1 b2 b3
  have t := hm.2.1
  have n1 := noM_ct hm (alM cN)
  simp only [mk, b3]
  by_cases q1 : noM m (alM cN) = true
  · rw [if_pos q1, b1, Option.bind_some]
    rw [n1] at q1
    by_cases q2 : (m.testBit 0 && m.testBit 4) = true
    · rw [if_pos q2, if_neg (show ¬ (1 : Int32) = 0 from by decide)]
      rw [Bool.and_eq_true, t 0 (by omega), t 4 (by omega)] at q2
      exact ⟨fun _ => rfl, fun y => absurd (Or.inr (Or.inr (Or.inl q2))) y⟩
    rw [if_neg q2, if_pos rfl, b2, Option.bind_some]
    rw [Bool.and_eq_true, t 0 (by omega), t 4 (by omega)] at q2
    by_cases q3 : (m.testBit 2 && m.testBit 3) = true
    · rw [if_pos q3, if_neg (show ¬ (1 : Int32) = 0 from by decide)]
      rw [Bool.and_eq_true, t 2 (by omega), t 3 (by omega)] at q3
      exact ⟨fun _ => rfl, fun y => absurd (Or.inr (Or.inr (Or.inr (Or.inl q3)))) y⟩
    rw [if_neg q3, if_pos rfl]
    rw [Bool.and_eq_true, t 2 (by omega), t 3 (by omega)] at q3
    have wm : (iI wd = (-1 : Int32)) = (wd = -1) := by rw [show (-1 : Int32) = iI (-1) from rfl, iI_eq (by omega) (by omega) (by omega) (by omega)]
    have pm : (iI pr = (-1 : Int32)) = (pr = -1) := by rw [show (-1 : Int32) = iI (-1) from rfl, iI_eq (by omega) (by omega) (by omega) (by omega)]
    have xm : (iI ix = (0 : Int32)) = (ix = 0) := by rw [show (0 : Int32) = iI 0 from rfl, iI_eq (by omega) (by omega) (by omega) (by omega)]
    have c37 : (iI (cN : Int) = (37 : Int32)) = ((cN : Int) = 37) := by rw [show (37 : Int32) = iI 37 from rfl, iI_eq (by omega) (by omega) (by omega) (by omega)]
    have c110 : (iI (cN : Int) = (110 : Int32)) = ((cN : Int) = 110) := by rw [show (110 : Int32) = iI 110 from rfl, iI_eq (by omega) (by omega) (by omega) (by omega)]
    simp only [wm, pm, xm, c37, c110]
    rw [has33_all ⟨cN, by omega⟩]
    simp only [Option.bind_some]
    have hor : ((m.testBit 0 || m.testBit 4) = false) ↔ ¬ (1 ≤ ct 0 ∨ 1 ≤ ct 4) := by
      rw [← t 0 (by omega), ← t 4 (by omega)]
      cases m.testBit 0 <;> cases m.testBit 4 <;> simp
    simp only [hor]
    have tail : ¬ ((1 ≤ ct 0 ∨ 1 ≤ ct 4) ∧ wd = -1) → (BAR ct wd pr cN ix → (if pr = -1 then (if (cN : Int) = 110 then (if wd = -1 then ((if (cN : Int) = 37 then some (0 : Int32) else if (cN : Int) = 110 then some 0 else some 1).bind fun u120 => if u120 = 0 then (if ix = 0 then some (0 : Int32) else some 1) else some 0) else some 1) else ((if (cN : Int) = 37 then some (0 : Int32) else if (cN : Int) = 110 then some 0 else some 1).bind fun u120 => if u120 = 0 then (if ix = 0 then some (0 : Int32) else some 1) else some 0)) else (if (if inW 50 (cN : Int) then (1 : Int32) else 0) = 0 then (if (cN : Int) = 110 then (if wd = -1 then ((if (cN : Int) = 37 then some (0 : Int32) else if (cN : Int) = 110 then some 0 else some 1).bind fun u120 => if u120 = 0 then (if ix = 0 then some (0 : Int32) else some 1) else some 0) else some 1) else ((if (cN : Int) = 37 then some (0 : Int32) else if (cN : Int) = 110 then some 0 else some 1).bind fun u120 => if u120 = 0 then (if ix = 0 then some (0 : Int32) else some 1) else some 0)) else some 1)) = some 1) ∧ (¬ BAR ct wd pr cN ix → (if pr = -1 then (if (cN : Int) = 110 then (if wd = -1 then ((if (cN : Int) = 37 then some (0 : Int32) else if (cN : Int) = 110 then some 0 else some 1).bind fun u120 => if u120 = 0 then (if ix = 0 then some (0 : Int32) else some 1) else some 0) else some 1) else ((if (cN : Int) = 37 then some (0 : Int32) else if (cN : Int) = 110 then some 0 else some 1).bind fun u120 => if u120 = 0 then (if ix = 0 then some (0 : Int32) else some 1) else some 0)) else (if (if inW 50 (cN : Int) then (1 : Int32) else 0) = 0 then (if (cN : Int) = 110 then (if wd = -1 then ((if (cN : Int) = 37 then some (0 : Int32) else if (cN : Int) = 110 then some 0 else some 1).bind fun u120 => if u120 = 0 then (if ix = 0 then some (0 : Int32) else some 1) else some 0) else some 1) else ((if (cN : Int) = 37 then some (0 : Int32) else if (cN : Int) = 110 then some 0 else some 1).bind fun u120 => if u120 = 0 then (if ix = 0 then some (0 : Int32) else some 1) else some 0)) else some 1)) = some 0) := by
      intro q4
      have hB : BAR ct wd pr cN ix ↔ ((pr ≠ -1 ∧ inW 50 (cN : Int)) ∨ ((cN : Int) = 110 ∧ wd ≠ -1) ∨ (((cN : Int) = 37 ∨ (cN : Int) = 110) ∧ ix ≠ 0)) := by
        unfold BAR
        constructor
        · rintro (y | y | y | y | y | y)
          · exact absurd (Or.inl y) q1
          · exact absurd (Or.inr y) q1
          · exact absurd y q2
          · exact absurd y q3
          · exact absurd y q4
          · exact y
        · intro y; exact Or.inr (Or.inr (Or.inr (Or.inr (Or.inr y))))
      rw [hB]
      by_cases a1 : pr = -1 <;> by_cases a2 : inW 50 (cN : Int) <;> by_cases a3 : (cN : Int) = 110 <;> by_cases a4 : wd = -1 <;> by_cases a5 : (cN : Int) = 37 <;> by_cases a6 : ix = 0 <;> simp [a1, a2, a3, a4, a5, a6]
    by_cases q5 : 1 ≤ ct 0 ∨ 1 ≤ ct 4
    · rw [if_neg (not_not_intro q5)]
      by_cases q6 : wd = -1
      · rw [if_pos q6]
        exact ⟨fun _ => rfl, fun y => absurd (Or.inr (Or.inr (Or.inr (Or.inr (Or.inl ⟨q5, q6⟩))))) y⟩
      · rw [if_neg q6]
        exact tail (fun y => q6 y.2)
    · rw [if_pos q5]
      exact tail (fun y => q5 y.1)
  · rw [if_neg q1]
    rw [n1] at q1
    refine ⟨fun _ => rfl, fun y => absurd ?_ y⟩
    rcases Decidable.not_not.mp q1 with z | z
    · exact Or.inl z
    · exact Or.inr (Or.inl z)
