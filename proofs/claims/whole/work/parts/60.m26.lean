-- UD
set_option maxRecDepth 10000 in
theorem nd1_eq (n : Nat) : nd1 n = max (nd n) 1 := by
  unfold nd1
  rcases Nat.eq_zero_or_pos n with h | h
  · subst h; rw [nd_zero]; simp
  · have := nd_pos h
    first
    | (rw [if_neg (by omega)]; omega)
    | (split <;> omega)
    | omega
set_option maxRecDepth 10000 in
def wholeD (v : Int) (g : Prop) [Decidable g] : List Int32 := wholeE (digF v.natAbs) (nd1 v.natAbs) g
set_option maxRecDepth 10000 in
theorem nd1_dig {n j : Nat} (hj : j < nd1 n) : digF n j = n / 10 ^ (nd1 n - 1 - j) % 10 := by
  rcases Nat.eq_zero_or_pos n with h | h
  · subst h
    rw [digF_out (by rw [nd_zero]; omega), Nat.zero_div]
  · have h1 := nd_pos h
    have h2 := nd1_eq n
    rw [digF_in (by omega), show nd1 n = nd n by omega]
set_option maxRecDepth 10000 in
theorem wholeD_G (v : Int) (g : Prop) [Decidable g] : wholeD v g = wholeG (digF v.natAbs) (nd1 v.natAbs) g 0 (nd1 v.natAbs) := by
  have := nd1_eq v.natAbs
  unfold wholeD wholeE wholeG
  rw [show max ((nd1 v.natAbs : Nat) : Int) 1 = ((nd1 v.natAbs : Nat) : Int) by omega, Int.toNat_natCast]
set_option maxRecDepth 10000 in
theorem spL_get {v : Int} {j : Nat} (hj : j < nd1 v.natAbs) : (spL v)[(if v < 0 then 1 else 0) + j]? = some (iI (48 + (digF v.natAbs j : Nat))) := by
  unfold spL
  have hd := nd1_dig hj
  have hr : ((List.range' 0 (nd1 v.natAbs)).map (fun i : Nat => iI (48 + (v.natAbs / 10 ^ (nd1 v.natAbs - 1 - i) % 10 : Nat))))[j]? = some (iI (48 + (digF v.natAbs j : Nat))) := by
    rw [List.getElem?_map, List.getElem?_range' hj, Option.map_some, hd]
    simp
  by_cases q : v < 0
  · rw [if_pos q, if_pos q, List.getElem?_append_right (by simp)]
    rw [show 1 + j - [iI 45].length = j by simp]
    exact hr
  · rw [if_neg q, if_neg q, List.nil_append, Nat.zero_add]
    exact hr
set_option maxRecDepth 10000 in
abbrev π9 (r : (Nat → Int32) × Int32 × Int32 × Int32 × Int32 × (Nat → Int32) × Int32 × (Nat → Int32) × Nat) : Nat := r.2.2.2.2.2.2.2.2
set_option maxRecDepth 10000 in
abbrev MB9 (E : List Int32) (r : (Nat → Int32) × Int32 × Int32 × Int32 × Int32 × (Nat → Int32) × Int32 × (Nat → Int32) × Nat) : Prop := MB r.2.2.1 r.2.2.2.2.2.2.2.1 r.2.2.2.2.2.2.2.2 E
set_option maxRecDepth 10000 in
theorem wh59 {L : Nat} (hL2 : L ≤ 150000) {E : List Int32} {v : Int} (hv0 : -9223372036854775808 ≤ v) (hv1 : v < 9223372036854775808) {w : Int} (hw0 : -1 ≤ w) (hw1 : w ≤ 9999) (hE : E.length + 30000 < L) (fc : Nat → Int32) (vc : Nat → Int64) {sp : Nat → Int32} (hsp : ∀ i y, (spL v)[i]? = some y → sp i = y) (hzl : ¬ (¬ fc 4 ≤ 0 ∧ ¬ fc 0 ≤ 0)) {ng : Int} (hng : ng = if v < 0 then 1 else 0) {h : Int32} {c : Nat → Int32} {bl : Nat} (hM : MB h c bl E) (hbl : bl ≤ 400000) :
    ∀ (d i m : Nat) (bo : Int32) (yb : Nat → Int32) (Y : List Int32), i + d = nd1 v.natAbs → d < m → TP bo yb Y → Y.length ≤ 2 * i → OUT π9 (f_Md_whole_59 m (iI (spL v).length) (iI (ng + i)) vc sp (iI ng) h 0 fc bo (iI w) yb 0 c bl) bl L (MB9 (E ++ layT w (sgM (iI ng) 0 fc) (Y ++ wholeG (digF v.natAbs) (nd1 v.natAbs) (¬ fc 5 ≤ 0) i d) (rdM (iI ng) fc) False (¬ fc 4 ≤ 0) (¬ fc 0 ≤ 0)))
  | 0, i, m + 1, bo, yb, Y, hi, hm, hY, hYl => by
    have h20 := spl_20 hv0 hv1
    have hln := spl_len v
    have hng1 : ng = 0 ∨ ng = 1 := by rw [hng]; split <;> simp
    have hi20 : i ≤ 20 := by rw [hln] at h20; split at h20 <;> omega
    have hlen : ((spL v).length : Int) = ng + nd1 v.natAbs := by rw [hln, hng]; split <;> omega
    rw [f_Md_whole_59, hlen, if_pos (show iI (ng + ((nd1 v.natAbs : Nat) : Int)) ≤ iI (ng + i) from by simp (disch := omega) only [iI_lit, iL_lit, iI_add, iI_sub, iI_mul, iI_neg, iL_add, iL_sub, iL_mul, iL_neg, iI_lt, iI_le, iI_eq, iL_lt, iL_le, iL_eqS, iI_c, iI_ok, iI_l, iL_i, iI_low, l_ushrI, l_shlI, l_shrI, i_shlI, i_shrI, i_ushrI, iI_div, iL_div, Int.toNat_natCast, Int.reduceToNat, iI_ofNat]; omega)]
    have e0 : wholeG (digF v.natAbs) (nd1 v.natAbs) (¬ fc 5 ≤ 0) i 0 = [] := rfl
    rw [e0, List.append_nil]
    have key := signed_spec hL2 hY (by omega) hw0 hw1 hE fc (iI ng) 0 0 (f := 0) (by omega) (by omega) (fun x => hzl ⟨x.1.1, x.2⟩) hM hbl
    rw [List.take_zero, List.append_nil, List.drop_zero] at key
    have ez : (¬ fc 4 ≤ 0 ∧ (0 : Int32) = 0) = (¬ fc 4 ≤ 0) := by simp
    simp only [ez, and_true] at key
    exact OUT_bind key (fun u hu h1 h2 => ⟨_, rfl, Nat.le_refl _, Nat.le_max_left _ _, hu⟩)
  | d + 1, i, m + 1, bo, yb, Y, hi, hm, hY, hYl => by
    have h20 := spl_20 hv0 hv1
    have hln := spl_len v
    have hng1 : ng = 0 ∨ ng = 1 := by rw [hng]; split <;> simp
    have hi20 : i + d < 20 := by rw [hln] at h20; split at h20 <;> omega
    have hlen : ((spL v).length : Int) = ng + nd1 v.natAbs := by rw [hln, hng]; split <;> omega
    rw [f_Md_whole_59, if_neg (show ¬ iI ((spL v).length : Int) ≤ iI (ng + i) from by rw [hlen]; simp (disch := omega) only [iI_lit, iL_lit, iI_add, iI_sub, iI_mul, iI_neg, iL_add, iL_sub, iL_mul, iL_neg, iI_lt, iI_le, iI_eq, iL_lt, iL_le, iL_eqS, iI_c, iI_ok, iI_l, iL_i, iI_low, l_ushrI, l_shlI, l_shrI, i_shlI, i_shrI, i_ushrI, iI_div, iL_div, Int.toNat_natCast, Int.reduceToNat, iI_ofNat]; omega), if_pos (show gx_ok (5 : Int32) 7 = true from by decide)]
    unfold f_Md_whole_86 f_Md_whole_103
    have hidx : (ng + (i : Int)).toNat = (if v < 0 then 1 else 0) + i := by rw [hng]; split <;> omega
    have hdig : sp (ng + (i : Int)).toNat = iI (48 + (digF v.natAbs i : Nat)) := by
      rw [hidx]; exact hsp _ _ (spL_get (by omega))
    have h9 := digF_le v.natAbs i
    have hok : gx_ok (iI (ng + i)) 72 = true := by simp (disch := omega) only [iI_lit, iL_lit, iI_add, iI_sub, iI_mul, iI_neg, iL_add, iL_sub, iL_mul, iL_neg, iI_lt, iI_le, iI_eq, iL_lt, iL_le, iL_eqS, iI_c, iI_ok, iI_l, iL_i, iI_low, l_ushrI, l_shlI, l_shrI, i_shlI, i_shrI, i_ushrI, iI_div, iL_div, Int.toNat_natCast, Int.reduceToNat, iI_ofNat]; omega
    simp only [if_pos hok]
    rw [iI_c (by omega) (by omega), hdig]
    have ej : iI (ng + i) + 1 = iI (ng + ((i + 1 : Nat) : Int)) := by rw [show (1 : Int32) = iI 1 from rfl, iI_add]; congr 1; omega
    rw [ej]
    have tail : ∀ (bo : Int32) (yb : Nat → Int32) (Y' : List Int32), TP bo yb Y' → Y'.length ≤ 2 * i + 1 → OUT π9 ((f_Md_add (iI (48 + (digF v.natAbs i : Nat))) bo yb).bind fun u110 => f_Md_whole_59 m (iI (spL v).length) (iI (ng + ((i + 1 : Nat) : Int))) vc sp (iI ng) h 0 fc u110.1 (iI w) u110.2 0 c bl) bl L (MB9 (E ++ layT w (sgM (iI ng) 0 fc) (Y' ++ ([iI (48 + (digF v.natAbs i : Nat))] ++ wholeG (digF v.natAbs) (nd1 v.natAbs) (¬ fc 5 ≤ 0) (i + 1) d)) (rdM (iI ng) fc) False (¬ fc 4 ≤ 0) (¬ fc 0 ≤ 0))) := by
      intro bo yb Y' hY' hYl'
      obtain ⟨b1, c1, e1, t1⟩ := madd_i hY' (by omega) (a := 48 + (digF v.natAbs i : Nat)) (by omega) (by omega)
      rw [e1, Option.bind_some]
      have := wh59 hL2 hv0 hv1 hw0 hw1 hE fc vc hsp hzl hng hM hbl d (i + 1) m b1 c1 _ (by omega) (by omega) t1 (by simp; omega)
      rw [List.append_assoc] at this
      exact this
    rw [wholeG_succ, wholeAt]
    have eW : dg (digF v.natAbs) ((i : Int) + ((nd1 v.natAbs : Nat) : Int) - ((nd1 v.natAbs : Nat) : Int)) = (digF v.natAbs i : Nat) := by
      rw [show (i : Int) + ((nd1 v.natAbs : Nat) : Int) - ((nd1 v.natAbs : Nat) : Int) = (i : Int) by omega]
      unfold dg; rw [if_pos (by omega), Int.toNat_natCast]
    rw [eW]
    have plain : ¬ (¬ fc 5 ≤ 0 ∧ 0 < i ∧ (((nd1 v.natAbs : Nat) : Int) - i) % 3 = 0) → OUT π9 ((f_Md_add (iI (48 + (digF v.natAbs i : Nat))) bo yb).bind fun u110 => f_Md_whole_59 m (iI (spL v).length) (iI (ng + ((i + 1 : Nat) : Int))) vc sp (iI ng) h 0 fc u110.1 (iI w) u110.2 0 c bl) bl L (MB9 (E ++ layT w (sgM (iI ng) 0 fc) (Y ++ ((if ¬ fc 5 ≤ 0 ∧ 0 < i ∧ (((nd1 v.natAbs : Nat) : Int) - i) % 3 = 0 then [iI 44] else []) ++ [iI (48 + (digF v.natAbs i : Nat))] ++ wholeG (digF v.natAbs) (nd1 v.natAbs) (¬ fc 5 ≤ 0) (i + 1) d)) (rdM (iI ng) fc) False (¬ fc 4 ≤ 0) (¬ fc 0 ≤ 0))) := by
      intro q
      rw [if_neg q, List.nil_append]
      exact tail bo yb Y hY (by omega)
    show OUT π9 (if fc 5 ≤ 0 then _ else _) bl L _
    by_cases q5 : fc 5 ≤ 0
    · rw [if_pos q5]; exact plain (fun x => x.1 q5)
    · rw [if_neg q5]
      have one : ∀ t0 : Int32, t0 = iI ng → OUT π9 (if iI (ng + i) ≤ t0 then ((f_Md_add (iI (48 + (digF v.natAbs i : Nat))) bo yb).bind fun u110 => f_Md_whole_59 m (iI (spL v).length) (iI (ng + ((i + 1 : Nat) : Int))) vc sp (iI ng) h 0 fc u110.1 (iI w) u110.2 0 c bl) else (if (iI ((spL v).length : Int) - iI (ng + i)) - (iI ((spL v).length : Int) - iI (ng + i)) / (3 : Int32) * (3 : Int32) = 0 then ((f_Md_add (44 : Int32) bo yb).bind fun u100 => (f_Md_add (iI (48 + (digF v.natAbs i : Nat))) u100.1 u100.2).bind fun u110 => f_Md_whole_59 m (iI (spL v).length) (iI (ng + ((i + 1 : Nat) : Int))) vc sp (iI ng) h 0 fc u110.1 (iI w) u110.2 0 c bl) else ((f_Md_add (iI (48 + (digF v.natAbs i : Nat))) bo yb).bind fun u110 => f_Md_whole_59 m (iI (spL v).length) (iI (ng + ((i + 1 : Nat) : Int))) vc sp (iI ng) h 0 fc u110.1 (iI w) u110.2 0 c bl))) bl L (MB9 (E ++ layT w (sgM (iI ng) 0 fc) (Y ++ ((if ¬ fc 5 ≤ 0 ∧ 0 < i ∧ (((nd1 v.natAbs : Nat) : Int) - i) % 3 = 0 then [iI 44] else []) ++ [iI (48 + (digF v.natAbs i : Nat))] ++ wholeG (digF v.natAbs) (nd1 v.natAbs) (¬ fc 5 ≤ 0) (i + 1) d)) (rdM (iI ng) fc) False (¬ fc 4 ≤ 0) (¬ fc 0 ≤ 0))) := by
        intro t0 ht0
        rw [ht0]
        by_cases q2 : i = 0
        · rw [if_pos (show iI (ng + i) ≤ iI ng from by simp (disch := omega) only [iI_lit, iL_lit, iI_add, iI_sub, iI_mul, iI_neg, iL_add, iL_sub, iL_mul, iL_neg, iI_lt, iI_le, iI_eq, iL_lt, iL_le, iL_eqS, iI_c, iI_ok, iI_l, iL_i, iI_low, l_ushrI, l_shlI, l_shrI, i_shlI, i_shrI, i_ushrI, iI_div, iL_div, Int.toNat_natCast, Int.reduceToNat, iI_ofNat]; omega)]; exact plain (fun x => by omega)
        · rw [if_neg (show ¬ iI (ng + i) ≤ iI ng from by simp (disch := omega) only [iI_lit, iL_lit, iI_add, iI_sub, iI_mul, iI_neg, iL_add, iL_sub, iL_mul, iL_neg, iI_lt, iI_le, iI_eq, iL_lt, iL_le, iL_eqS, iI_c, iI_ok, iI_l, iL_i, iI_low, l_ushrI, l_shlI, l_shrI, i_shlI, i_shrI, i_ushrI, iI_div, iL_div, Int.toNat_natCast, Int.reduceToNat, iI_ofNat]; omega)]
          have em : (iI ((spL v).length : Int) - iI (ng + i)) - (iI ((spL v).length : Int) - iI (ng + i)) / (3 : Int32) * (3 : Int32) = iI ((((nd1 v.natAbs : Nat) : Int) - i) % 3) := by
            rw [hlen, show (3 : Int32) = iI 3 from rfl, iI_sub, iI_div (by omega) (by omega) (by omega) (by omega), iI_mul, iI_sub]
            congr 1; omega
          rw [em]
          by_cases q3 : (((nd1 v.natAbs : Nat) : Int) - i) % 3 = 0
          · rw [if_pos (show iI ((((nd1 v.natAbs : Nat) : Int) - i) % 3) = 0 from by rw [q3]; rfl)]
            obtain ⟨b1, c1, e1, t1⟩ := madd_i hY (by omega) (a := 44) (by omega) (by omega)
            rw [show (44 : Int32) = iI 44 from rfl, e1, Option.bind_some, if_pos (show ¬ fc 5 ≤ 0 ∧ 0 < i ∧ (((nd1 v.natAbs : Nat) : Int) - i) % 3 = 0 from ⟨q5, by omega, q3⟩)]
            have := tail b1 c1 _ t1 (by simp; omega)
            rw [List.append_assoc Y] at this
            rw [List.append_assoc [iI 44]]
            exact this
          · rw [if_neg (show ¬ iI ((((nd1 v.natAbs : Nat) : Int) - i) % 3) = 0 from by simp (disch := omega) only [iI_lit, iL_lit, iI_add, iI_sub, iI_mul, iI_neg, iL_add, iL_sub, iL_mul, iL_neg, iI_lt, iI_le, iI_eq, iL_lt, iL_le, iL_eqS, iI_c, iI_ok, iI_l, iL_i, iI_low, l_ushrI, l_shlI, l_shrI, i_shlI, i_shrI, i_ushrI, iI_div, iL_div, Int.toNat_natCast, Int.reduceToNat, iI_ofNat]; omega)]
            exact plain (fun x => q3 x.2.2)
      rcases hng1 with rfl | rfl
      · rw [if_pos (show iI 0 = 0 from rfl)]
        exact one 0 rfl
      · rw [if_neg (show ¬ iI 1 = 0 from by decide)]
        exact one 1 rfl
set_option maxRecDepth 10000 in
theorem mwhole_spec {L : Nat} (hL2 : L ≤ 150000) {E : List Int32} {v : Int} (hv0 : -9223372036854775808 ≤ v) (hv1 : v < 9223372036854775808) {w : Int} (hw0 : -1 ≤ w) (hw1 : w ≤ 9999) (hE : E.length + 30000 < L) (fc : Nat → Int32) {vc : Nat → Int64} {a : Nat} (ha : a < 16) (hva : vc a = iL v) (sp : Nat → Int32) (hzl : ¬ (¬ fc 4 ≤ 0 ∧ ¬ fc 0 ≤ 0)) (ng no bo un : Int32) (yb : Nat → Int32) {h : Int32} {c : Nat → Int32} {bl : Nat} (hM : MB h c bl E) (hbl : bl ≤ 400000) :
    OUT π9 (f_Md_whole (iI a) vc sp ng h no fc bo (iI w) yb un c bl) bl L (MB9 (E ++ layT w (sgM (iI (if v < 0 then 1 else 0)) 0 fc) (wholeD v (¬ fc 5 ≤ 0)) (rdM (iI (if v < 0 then 1 else 0)) fc) False (¬ fc 4 ≤ 0) (¬ fc 0 ≤ 0))) := by
  have h20 := spl_20 hv0 hv1
  have hln := spl_len v
  unfold f_Md_whole
  apply OUT_mo
  rw [if_pos (show gx_ok (iI (a : Int)) 16 = true from by simp (disch := omega) only [iI_lit, iL_lit, iI_add, iI_sub, iI_mul, iI_neg, iL_add, iL_sub, iL_mul, iL_neg, iI_lt, iI_le, iI_eq, iL_lt, iL_le, iL_eqS, iI_c, iI_ok, iI_l, iL_i, iI_low, l_ushrI, l_shlI, l_shrI, i_shlI, i_shrI, i_ushrI, iI_div, iL_div, Int.toNat_natCast, Int.reduceToNat, iI_ofNat]; omega), iI_c (by omega) (by omega), Int.toNat_natCast, hva]
  obtain ⟨sp', e, g⟩ := spell_spec hv0 hv1 sp
  have hz : ((0 : Int64) ≤ iL v) = (0 ≤ v) := by rw [show (0 : Int64) = iL 0 from rfl, iL_le (by omega) (by omega) (by omega) (by omega)]
  simp only [hz]
  unfold f_Md_whole_17 f_Md_whole_58
  have hok : gx_ok (iI (a : Int)) 16 = true := by simp (disch := omega) only [iI_lit, iL_lit, iI_add, iI_sub, iI_mul, iI_neg, iL_add, iL_sub, iL_mul, iL_neg, iI_lt, iI_le, iI_eq, iL_lt, iL_le, iL_eqS, iI_c, iI_ok, iI_l, iL_i, iI_low, l_ushrI, l_shlI, l_shrI, i_shlI, i_shrI, i_ushrI, iI_div, iL_div, Int.toNat_natCast, Int.reduceToNat, iI_ofNat]; omega
  simp only [if_pos hok]
  rw [iI_c (by omega) (by omega), Int.toNat_natCast, hva, e]
  simp only [Option.bind_some]
  rw [wholeD_G]
  by_cases q : v < 0
  · rw [if_neg (by omega), if_pos (show gx_bo 1 = true from by decide), if_neg (show ¬ (1 : Int32) = 0 from by decide)]
    rw [if_pos q]
    exact wh59 hL2 hv0 hv1 hw0 hw1 hE fc vc g hzl (ng := 1) (by rw [if_pos q]) hM hbl (nd1 v.natAbs) 0 gx_fu 0 yb [] (by omega) (by have := fu_pos; rw [hln] at h20; omega) (TP_nil0 yb) (by simp)
  · rw [if_pos (by omega), if_pos (show gx_bo 0 = true from by decide), if_pos trivial]
    rw [if_neg q]
    exact wh59 hL2 hv0 hv1 hw0 hw1 hE fc vc g hzl (ng := 0) (by rw [if_neg q]) hM hbl (nd1 v.natAbs) 0 gx_fu 0 yb [] (by omega) (by have := fu_pos; rw [hln] at h20; omega) (TP_nil0 yb) (by simp)
-- UE
set_option maxRecDepth 10000 in
def FQ (s : Nat) (u le pr w : Int) (fc : Nat → Int32) (Q : List Int32) : Prop :=
  if le = 97 then ∃ T, realA s u pr T ∧ Q = layT w (sgM (iI (biS s u)) (iI (biN s u)) fc ++ oxE s u) T (rdM (iI (biS s u)) fc) False (¬ fc 4 ≤ 0 ∧ ¬ (biN s u = 1 ∨ biI s u = 1)) (¬ fc 0 ≤ 0)
  else Q = layT w (sgM (iI (biS s u)) (iI (biN s u)) fc) (realT s u le (if pr = -1 then 6 else pr) (¬ fc 5 ≤ 0) (¬ fc 1 ≤ 0)) (rdM (iI (biS s u)) fc) False (¬ fc 4 ≤ 0 ∧ ¬ (biN s u = 1 ∨ biI s u = 1)) (¬ fc 0 ≤ 0)
set_option maxRecDepth 10000 in
theorem FQ_uniq {s : Nat} {u le pr w : Int} {fc : Nat → Int32} {Q Q' : List Int32} (h : FQ s u le pr w fc Q) (h' : FQ s u le pr w fc Q') : Q = Q' := by
  unfold FQ at h h'
  by_cases q : le = 97
  · rw [if_pos q] at h h'
    obtain ⟨T, h1, rfl⟩ := h
    obtain ⟨T', h2, rfl⟩ := h'
    rw [realA_uniq h1 h2]
  · rw [if_neg q] at h h'
    rw [h, h']
set_option maxRecDepth 10000 in
def flLe (cv : Int) : Int := if cv = 101 ∨ cv = 69 then 101 else if cv = 102 then 102 else if cv = 103 ∨ cv = 71 then 103 else 97
set_option maxRecDepth 10000 in
abbrev T19 := Int32 × Int32 × Int32 × Int32 × Int32 × (Nat → Int32) × (Nat → Int64) × Int32 × Int32 × Int32 × (Nat → Int32) × Int32 × (Nat → Int32) × Int32 × Int32 × Int32 × (Nat → Int32) × (Nat → Int32) × Nat
set_option maxRecDepth 10000 in
abbrev π19 (r : T19) : Nat := r.2.2.2.2.2.2.2.2.2.2.2.2.2.2.2.2.2.2
set_option maxRecDepth 10000 in
abbrev MB19 (E : List Int32) (r : T19) : Prop := MB r.2.2.2.2.2.2.2.2.2.2.2.2.2.1 r.2.2.2.2.2.2.2.2.2.2.2.2.2.2.2.2.2.1 r.2.2.2.2.2.2.2.2.2.2.2.2.2.2.2.2.2.2 E
set_option maxRecDepth 10000 in
theorem un01 (p : Prop) [Decidable p] : ((iI (if p then 1 else 0)) = 0) = ¬ p := by
  by_cases h : p
  · rw [if_pos h]; exact propext ⟨fun x => absurd x (by decide), fun x => absurd h x⟩
  · rw [if_neg h]; exact propext ⟨fun _ => h, fun _ => rfl⟩
set_option maxRecDepth 10000 in
theorem fl150 {L : Nat} (hL2 : L ≤ 150000) {E Y : List Int32} {bo : Int32} {yb : Nat → Int32} (hY : TP bo yb Y) (hYl : Y.length < 12000) {w : Int} (hw0 : -1 ≤ w) (hw1 : w ≤ 9999) (hE : E.length + 30000 < L) (fc : Nat → Int32) (p : Prop) [Decidable p] (hzl : ¬ (¬ fc 4 ≤ 0 ∧ ¬ fc 0 ≤ 0)) (ng no : Int32) {f : Nat} (hf : f ≤ Y.length) (hf2 : f ≤ 2) (kc : Nat → Int32) (cv pr bi le us en ep crn crp : Int32) (vc lc : Nat → Int64) (ed crd sp : Nat → Int32) {h : Int32} {c : Nat → Int32} {bl : Nat} (hM : MB h c bl E) (hbl : bl ≤ 400000) :
    OUT π19 (f_Md_floating_150 (iI f) kc cv pr fc vc bi (iI (if p then 1 else 0)) le us en ed lc ep crn crp crd bo sp h ng no (iI w) yb c bl) bl L (MB19 (E ++ layT w (sgM ng no fc ++ Y.take f) (Y.drop f) (rdM ng fc) False (¬ fc 4 ≤ 0 ∧ ¬ p) (¬ fc 0 ≤ 0))) := by
  unfold f_Md_floating_150
  have key := signed_spec hL2 hY hYl hw0 hw1 hE fc ng no (iI (if p then 1 else 0)) hf hf2 (fun x => hzl ⟨x.1.1, x.2⟩) hM hbl
  simp only [un01] at key
  exact OUT_bind key (fun u hu h1 h2 => ⟨_, rfl, Nat.le_refl _, Nat.le_max_left _ _, hu⟩)
set_option maxRecDepth 10000 in
theorem fl122 {L : Nat} (hL2 : L ≤ 150000) {E : List Int32} {s : Nat} (hs : s < 2) {u : Int} (h0 : 0 ≤ u) (h1 : u < 18446744073709551616) {le pr a : Int} (hle : le = 97 ∨ le = 101 ∨ le = 102 ∨ le = 103) (p0 : -1 ≤ pr) (p1 : pr ≤ 9999) (ha : a = if le = 97 then pr else if pr = -1 then 6 else pr) {w : Int} (hw0 : -1 ≤ w) (hw1 : w ≤ 9999) (hE : E.length + 30000 < L) (fc : Nat → Int32) (hzl : ¬ (¬ fc 4 ≤ 0 ∧ ¬ fc 0 ≤ 0)) (h103 : le = 103 → fc 1 ≤ 0) {vc : Nat → Int64} {n : Nat} (hn : n < 16) (hvn : vc n = iL u) (kc : Nat → Int32) (cv prq un us en ep crn crp bo ng no : Int32) (lc : Nat → Int64) (ed crd sp yb : Nat → Int32) {h : Int32} {c : Nat → Int32} {bl : Nat} (hM : MB h c bl E) (hbl : bl ≤ 400000) :
    OUT π19 (f_Md_floating_122 (iI n) (iI le) (if fc 1 ≤ 0 then 0 else 1) (if fc 5 ≤ 0 then 0 else 1) (iI a) (iI le) kc cv prq fc vc (iI (szD s)) un (iI (szL s)) us en ed lc ep crn crp crd bo sp h ng no (iI w) yb c bl) bl L (fun r => ∃ Q, FQ s u le pr w fc Q ∧ MB19 (E ++ Q) r) := by
  unfold f_Md_floating_122 f_Md_floating_149
  rw [if_pos (show gx_ok (iI (n : Int)) 16 = true from by simp (disch := omega) only [iI_lit, iL_lit, iI_add, iI_sub, iI_mul, iI_neg, iL_add, iL_sub, iL_mul, iL_neg, iI_lt, iI_le, iI_eq, iL_lt, iL_le, iL_eqS, iI_c, iI_ok, iI_l, iL_i, iI_low, l_ushrI, l_shlI, l_shrI, i_shlI, i_shrI, i_ushrI, iI_div, iL_div, Int.toNat_natCast, Int.reduceToNat, iI_ofNat]; omega), iI_c (by omega) (by omega), Int.toNat_natCast, hvn]
  have g5 : ((if fc 5 ≤ 0 then (0 : Int32) else 1) ≠ 0) = (¬ fc 5 ≤ 0) := by
    by_cases q : fc 5 ≤ 0
    · rw [if_pos q]; exact propext ⟨fun x => absurd rfl x, fun x => absurd q x⟩
    · rw [if_neg q]; exact propext ⟨fun _ => q, fun _ => by decide⟩
  have g1 : ((if fc 1 ≤ 0 then (0 : Int32) else 1) ≠ 0) = (¬ fc 1 ≤ 0) := by
    by_cases q : fc 1 ≤ 0
    · rw [if_pos q]; exact propext ⟨fun x => absurd rfl x, fun x => absurd q x⟩
    · rw [if_neg q]; exact propext ⟨fun _ => q, fun _ => by decide⟩
  by_cases q : le = 97
  · subst q
    rw [if_pos rfl] at ha
    subst ha
    obtain ⟨x1, x2, x3, x4, x5, x6, x7, x8, bl', sp', bc', T, e, hT, hY⟩ := mrealA_spec hs h0 h1 p0 p1 (if fc 5 ≤ 0 then 0 else 1) (if fc 1 ≤ 0 then 0 else 1) un us en ep crn crp bo ng no ed crd sp yb lc
    rw [e, Option.bind_some]
    dsimp only
    rw [if_pos (show iI 97 = 97 from rfl)]
    have hTl : T.length ≤ 60 := by
      unfold realA at hT
      split at hT
      · rw [hT]; decide
      · split at hT
        · rw [hT]; decide
        · have fl : ∀ m d p, (fracT m d p).length ≤ d + 8 := by
            intro m d p
            unfold fracT pwrE
            have := numE_len (if p < 0 then -p else p) 1
            have h3 : (if p < 0 then [iI 45] else []).length ≤ 1 := by split <;> simp
            simp only [List.length_append, List.length_cons, List.length_nil, hexL_len]
            omega
          rcases hT with ⟨_, rfl⟩ | ⟨_, b, _, hh⟩
          · have := fl 0 (if whP a then 1 else (max a 1).toNat) 0
            have hw : (if whP a then 1 else (max a 1).toNat) ≤ 13 := by
              split
              · omega
              · rename_i nw
                have : ¬ 13 ≤ a := fun y => nw (Or.inr y)
                omega
            omega
          · split at hh
            · obtain ⟨n', hn', rfl⟩ := hh
              have := fl (biC s u * 2 ^ (min (53 - (b : Int)) (biQ s u + 1074)).toNat / 16 ^ (13 - n')) n' (biQ s u - min (53 - (b : Int)) (biQ s u + 1074) + 52)
              have := hn'.2.1
              omega
            · rename_i nw
              have h13 : ¬ 13 ≤ a := fun y => nw (Or.inr y)
              rw [hh]
              unfold rndT
              split
              · have := fl (neV (biC s u * 2 ^ (53 - b)) (52 - 4 * (max a 1).toNat) / 2) (max a 1).toNat (biQ s u - (53 - (b : Int)) + 52 + 1)
                omega
              · have := fl (neV (biC s u * 2 ^ (53 - b)) (52 - 4 * (max a 1).toNat)) (max a 1).toNat (biQ s u - (53 - (b : Int)) + 52)
                omega
    by_cases qq : biN s u = 1 ∨ biI s u = 1
    · have hox : oxE s u = [] := if_pos qq
      rw [hox, List.nil_append] at hY
      have e1 : ¬ iI (if biN s u = 1 ∨ biI s u = 1 then 1 else 0) = 0 := by rw [if_pos qq]; decide
      rw [if_neg e1]
      have key := fl150 hL2 hY (by omega) hw0 hw1 hE fc (biN s u = 1 ∨ biI s u = 1) hzl (iI (biS s u)) (iI (biN s u)) (f := 0) (by omega) (by omega) kc cv prq (iI (szD s)) (iI (szL s)) x1 x2 x5 x6 x7 vc x4 x3 x8 sp' hM hbl
      refine OUT_imp key (fun r hr => ⟨_, ?_, hr⟩)
      unfold FQ
      rw [if_pos rfl]
      refine ⟨T, hT, ?_⟩
      rw [hox, List.append_nil, List.take_zero, List.append_nil, List.drop_zero]
    · have hox : oxE s u = [iI 48, iI 120] := if_neg qq
      rw [hox] at hY
      have e1 : iI (if biN s u = 1 ∨ biI s u = 1 then 1 else 0) = 0 := by rw [if_neg qq]; rfl
      rw [if_pos e1]
      have key := fl150 hL2 hY (by simp; omega) hw0 hw1 hE fc (biN s u = 1 ∨ biI s u = 1) hzl (iI (biS s u)) (iI (biN s u)) (f := 2) (by simp) (by omega) kc cv prq (iI (szD s)) (iI (szL s)) x1 x2 x5 x6 x7 vc x4 x3 x8 sp' hM hbl
      refine OUT_imp key (fun r hr => ⟨_, ?_, hr⟩)
      unfold FQ
      rw [if_pos rfl]
      refine ⟨T, hT, ?_⟩
      rw [hox]
      rfl
  · rw [if_neg q] at ha
    have a0 : 0 ≤ a ∧ a ≤ 9999 := by rw [ha]; split <;> omega
    obtain ⟨x1, x2, x3, x4, x5, x6, x7, x8, bl', bc', e, hY⟩ := mreal_spec hs h0 h1 (le := le) (a := a) (by omega) a0.1 a0.2 (if fc 5 ≤ 0 then 0 else 1) (if fc 1 ≤ 0 then 0 else 1) (fun y => by rw [if_pos (h103 y)]) un us en ep crn crp bo ng no ed crd sp yb lc
    rw [e, Option.bind_some]
    dsimp only
    rw [if_neg (show ¬ iI le = 97 from by simp (disch := omega) only [iI_lit, iL_lit, iI_add, iI_sub, iI_mul, iI_neg, iL_add, iL_sub, iL_mul, iL_neg, iI_lt, iI_le, iI_eq, iL_lt, iL_le, iL_eqS, iI_c, iI_ok, iI_l, iL_i, iI_low, l_ushrI, l_shlI, l_shrI, i_shlI, i_shrI, i_ushrI, iI_div, iL_div, Int.toNat_natCast, Int.reduceToNat, iI_ofNat]; omega)]
    have hlen := realT_len hs h0 a0.1 a0.2 le (¬ fc 5 ≤ 0) (¬ fc 1 ≤ 0)
    simp only [g5, g1] at hY
    have key := fl150 hL2 hY (by omega) hw0 hw1 hE fc (biN s u = 1 ∨ biI s u = 1) hzl (iI (biS s u)) (iI (biN s u)) (f := 0) (by omega) (by omega) kc cv prq (iI (szD s)) (iI (szL s)) x1 x2 x5 x6 x7 vc x4 x3 x8 sp hM hbl
    refine OUT_imp key (fun r hr => ⟨_, ?_, hr⟩)
    unfold FQ
    rw [if_neg q, List.take_zero, List.append_nil, List.drop_zero, ← ha]
-- UF
set_option maxRecDepth 10000 in
theorem inW_fl : ∀ c : Fin 128, (c.val = 101 ∨ c.val = 69 ∨ c.val = 102 ∨ c.val = 103 ∨ c.val = 71 ∨ c.val = 97 ∨ c.val = 65) → ((inW 55 c.val ↔ (c.val = 101 ∨ c.val = 69)) ∧ (inW 57 c.val ↔ c.val = 102) ∧ (inW 58 c.val ↔ (c.val = 103 ∨ c.val = 71))) := by decide +kernel
set_option maxRecDepth 10000 in
theorem mfloat_spec {L : Nat} (hL2 : L ≤ 150000) {E : List Int32} {s : Nat} (hs : s < 2) {u : Int} (h0 : 0 ≤ u) (h1 : u < 18446744073709551616) {cv pr : Int} (hcv : cv = 101 ∨ cv = 69 ∨ cv = 102 ∨ cv = 103 ∨ cv = 71 ∨ cv = 97 ∨ cv = 65) (p0 : -1 ≤ pr) (p1 : pr ≤ 9999) {w : Int} (hw0 : -1 ≤ w) (hw1 : w ≤ 9999) (hE : E.length + 30000 < L) (fc : Nat → Int32) (hzl : ¬ (¬ fc 4 ≤ 0 ∧ ¬ fc 0 ≤ 0)) (h103 : flLe cv = 103 → fc 1 ≤ 0) {vc : Nat → Int64} {kc : Nat → Int32} {n : Nat} (hn : n < 16) (hvn : vc n = iL u) (hkn : (kc n = 6) = (s = 0)) (bi un le us en ep crn crp bo ng no : Int32) (lc : Nat → Int64) (ed crd sp yb : Nat → Int32) {h : Int32} {c : Nat → Int32} {bl : Nat} (hM : MB h c bl E) (hbl : bl ≤ 400000) :
    OUT π19 (f_Md_floating (iI n) kc (iI cv) (iI pr) fc vc bi un le us en ed lc ep crn crp crd bo sp h ng no (iI w) yb c bl) bl L (fun r => ∃ Q, FQ s u (flLe cv) pr w fc Q ∧ MB19 (E ++ Q) r) := by
  unfold f_Md_floating
  apply OUT_mo
  rw [if_pos (show gx_ok (iI (n : Int)) 16 = true from by simp (disch := omega) only [iI_lit, iL_lit, iI_add, iI_sub, iI_mul, iI_neg, iL_add, iL_sub, iL_mul, iL_neg, iI_lt, iI_le, iI_eq, iL_lt, iL_le, iL_eqS, iI_c, iI_ok, iI_l, iL_i, iI_low, l_ushrI, l_shlI, l_shrI, i_shlI, i_shrI, i_ushrI, iI_div, iL_div, Int.toNat_natCast, Int.reduceToNat, iI_ofNat]; omega), iI_c (by omega) (by omega), Int.toNat_natCast]
  simp only [hkn]
  have hle : flLe cv = 97 ∨ flLe cv = 101 ∨ flLe cv = 102 ∨ flLe cv = 103 := by
    unfold flLe; split; simp; split; simp; split <;> simp
  have e17 : (if s = 0 then (f_Md_floating_17 (iI n) (1 : Int32) kc (iI cv) (iI pr) fc vc bi un le us en ed lc ep crn crp crd bo sp h ng no (iI w) yb c bl) else (f_Md_floating_17 (iI n) (0 : Int32) kc (iI cv) (iI pr) fc vc bi un le us en ed lc ep crn crp crd bo sp h ng no (iI w) yb c bl)) = f_Md_floating_17 (iI n) (iI (1 - s)) kc (iI cv) (iI pr) fc vc bi un le us en ed lc ep crn crp crd bo sp h ng no (iI w) yb c bl := by
    have : s = 0 ∨ s = 1 := by omega
    rcases this with rfl | rfl
    · rw [if_pos rfl]; rfl
    · rw [if_neg (by decide)]; rfl
  rw [e17]
  unfold f_Md_floating_17
  rw [kind_spec hs bi le, Option.bind_some]
  obtain ⟨cN, rfl⟩ : ∃ k : Nat, cv = (k : Int) := ⟨cv.toNat, by omega⟩
  obtain ⟨w1, w2, w3⟩ := inW_fl ⟨cN, by omega⟩ (by simp; omega)
  simp only at w1 w2 w3
  rw [one_spec (o := 55) (by omega) (by omega) (by omega), one_spec (o := 57) (by omega) (by omega) (by omega), one_spec (o := 58) (by omega) (by omega) (by omega)]
  simp only [Option.bind_some]
  have e67 : (if (if inW 55 (cN : Int) then (1 : Int32) else 0) = 0 then (if (if inW 57 (cN : Int) then (1 : Int32) else 0) = 0 then (if (if inW 58 (cN : Int) then (1 : Int32) else 0) = 0 then (f_Md_floating_67 (iI n) (97 : Int32) kc (iI cN) (iI pr) fc vc (iI (szD s)) un (iI (szL s)) us en ed lc ep crn crp crd bo sp h ng no (iI w) yb c bl) else (f_Md_floating_67 (iI n) (103 : Int32) kc (iI cN) (iI pr) fc vc (iI (szD s)) un (iI (szL s)) us en ed lc ep crn crp crd bo sp h ng no (iI w) yb c bl)) else (f_Md_floating_67 (iI n) (102 : Int32) kc (iI cN) (iI pr) fc vc (iI (szD s)) un (iI (szL s)) us en ed lc ep crn crp crd bo sp h ng no (iI w) yb c bl)) else (f_Md_floating_67 (iI n) (101 : Int32) kc (iI cN) (iI pr) fc vc (iI (szD s)) un (iI (szL s)) us en ed lc ep crn crp crd bo sp h ng no (iI w) yb c bl)) = f_Md_floating_67 (iI n) (iI (flLe cN)) kc (iI cN) (iI pr) fc vc (iI (szD s)) un (iI (szL s)) us en ed lc ep crn crp crd bo sp h ng no (iI w) yb c bl := by
    unfold flLe
    by_cases q1 : inW 55 (cN : Int)
    · rw [if_pos q1, if_neg (show ¬ (1 : Int32) = 0 from by decide), if_pos (show (cN : Int) = 101 ∨ (cN : Int) = 69 by have := w1.mp q1; omega)]; rfl
    · rw [if_neg q1, if_pos rfl, if_neg (show ¬ ((cN : Int) = 101 ∨ (cN : Int) = 69) from fun x => q1 (w1.mpr (by omega)))]
      by_cases q2 : inW 57 (cN : Int)
      · rw [if_pos q2, if_neg (show ¬ (1 : Int32) = 0 from by decide), if_pos (show (cN : Int) = 102 by have := w2.mp q2; omega)]; rfl
      · rw [if_neg q2, if_pos rfl, if_neg (show ¬ (cN : Int) = 102 from fun x => q2 (w2.mpr (by omega)))]
        by_cases q3 : inW 58 (cN : Int)
        · rw [if_pos q3, if_neg (show ¬ (1 : Int32) = 0 from by decide), if_pos (show (cN : Int) = 103 ∨ (cN : Int) = 71 by have := w3.mp q3; omega)]; rfl
        · rw [if_neg q3, if_pos rfl, if_neg (show ¬ ((cN : Int) = 103 ∨ (cN : Int) = 71) from fun x => q3 (w3.mpr (by omega)))]; rfl
  rw [e67]
  generalize flLe (cN : Int) = LE at *
  unfold f_Md_floating_67 f_Md_floating_81
  have e90 : (if (0 : Int32) ≤ iI pr then (f_Md_floating_90 (iI n) (iI LE) (iI pr) kc (iI cN) (iI pr) fc vc (iI (szD s)) un (iI (szL s)) us en ed lc ep crn crp crd bo sp h ng no (iI w) yb c bl) else (if iI LE = (97 : Int32) then (f_Md_floating_90 (iI n) (iI LE) (iI pr) kc (iI cN) (iI pr) fc vc (iI (szD s)) un (iI (szL s)) us en ed lc ep crn crp crd bo sp h ng no (iI w) yb c bl) else (f_Md_floating_90 (iI n) (iI LE) (6 : Int32) kc (iI cN) (iI pr) fc vc (iI (szD s)) un (iI (szL s)) us en ed lc ep crn crp crd bo sp h ng no (iI w) yb c bl))) = f_Md_floating_90 (iI n) (iI LE) (iI (if LE = 97 then pr else if pr = -1 then 6 else pr)) kc (iI cN) (iI pr) fc vc (iI (szD s)) un (iI (szL s)) us en ed lc ep crn crp crd bo sp h ng no (iI w) yb c bl := by
    by_cases q1 : LE = 97
    · rw [if_pos (show iI LE = 97 from by rw [q1]; rfl), if_pos q1]
      split <;> rfl
    · rw [if_neg (show ¬ iI LE = 97 from by simp (disch := omega) only [iI_lit, iL_lit, iI_add, iI_sub, iI_mul, iI_neg, iL_add, iL_sub, iL_mul, iL_neg, iI_lt, iI_le, iI_eq, iL_lt, iL_le, iL_eqS, iI_c, iI_ok, iI_l, iL_i, iI_low, l_ushrI, l_shlI, l_shrI, i_shlI, i_shrI, i_ushrI, iI_div, iL_div, Int.toNat_natCast, Int.reduceToNat, iI_ofNat]; omega), if_neg q1]
      by_cases q2 : pr = -1
      · rw [if_neg (show ¬ (0 : Int32) ≤ iI pr from by simp (disch := omega) only [iI_lit, iL_lit, iI_add, iI_sub, iI_mul, iI_neg, iL_add, iL_sub, iL_mul, iL_neg, iI_lt, iI_le, iI_eq, iL_lt, iL_le, iL_eqS, iI_c, iI_ok, iI_l, iL_i, iI_low, l_ushrI, l_shlI, l_shrI, i_shlI, i_shrI, i_ushrI, iI_div, iL_div, Int.toNat_natCast, Int.reduceToNat, iI_ofNat]; omega), if_pos q2]; rfl
      · rw [if_pos (show (0 : Int32) ≤ iI pr from by simp (disch := omega) only [iI_lit, iL_lit, iI_add, iI_sub, iI_mul, iI_neg, iL_add, iL_sub, iL_mul, iL_neg, iI_lt, iI_le, iI_eq, iL_lt, iL_le, iL_eqS, iI_c, iI_ok, iI_l, iL_i, iI_low, l_ushrI, l_shlI, l_shrI, i_shlI, i_shrI, i_ushrI, iI_div, iL_div, Int.toNat_natCast, Int.reduceToNat, iI_ofNat]; omega), if_neg q2]
  rw [e90]
  unfold f_Md_floating_90 f_Md_floating_108
  rw [if_pos (show gx_ok (5 : Int32) 7 = true from by decide), if_pos (show gx_ok (1 : Int32) 7 = true from by decide), if_pos (show gx_ok (1 : Int32) 7 = true from by decide)]
  have key := fl122 hL2 hs h0 h1 (le := LE) (pr := pr) hle p0 p1 rfl hw0 hw1 hE fc hzl h103 hn hvn kc (iI cN) (iI pr) un us en ep crn crp bo ng no lc ed crd sp yb hM hbl
  show OUT π19 (if fc 5 ≤ 0 then (if fc 1 ≤ 0 then _ else _) else (if fc 1 ≤ 0 then _ else _)) bl L _
  by_cases q5 : fc 5 ≤ 0
  · by_cases q1 : fc 1 ≤ 0
    · simp only [if_pos q5, if_pos q1] at key ⊢; exact key
    · simp only [if_pos q5, if_neg q1] at key ⊢; exact key
  · by_cases q1 : fc 1 ≤ 0
    · simp only [if_neg q5, if_pos q1] at key ⊢; exact key
    · simp only [if_neg q5, if_neg q1] at key ⊢; exact key
-- UG
set_option maxRecDepth 10000 in
abbrev TT := Int32 × Int32 × Int32 × Int32 × (Nat → Int32) × (Nat → Int64) × Int32 × (Nat → Int32) × Int32 × (Nat → Int32) × Int32 × Int32 × (Nat → Int32) × Int32 × Int32 × (Nat → Int32) × Int32 × Int32 × Int32 × Int32 × (Nat → Int32) × (Nat → Int32) × Nat
set_option maxRecDepth 10000 in
abbrev πT (r : TT) : Nat := r.2.2.2.2.2.2.2.2.2.2.2.2.2.2.2.2.2.2.2.2.2.2
set_option maxRecDepth 10000 in
abbrev MBT (E : List Int32) (r : TT) : Prop := MB r.2.2.2.2.2.2.2.2.2.2.2.2.2.2.2.2.2.2.2.1 r.2.2.2.2.2.2.2.2.2.2.2.2.2.2.2.2.2.2.2.2.2.1 r.2.2.2.2.2.2.2.2.2.2.2.2.2.2.2.2.2.2.2.2.2.2 E
set_option maxRecDepth 10000 in
def TLD (bb : Prop) [Decidable bb] (k : Int) (v u : Int) (X : List Int32) (T : List Int32) : Prop :=
  if bb then T = (if k = 0 ∨ (k = 1 ∧ v = 0) then litL 67 else litL 68)
  else if k = 0 then T = litL 69 else if k = 1 then T = (if v = 1 then litL 68 else litL 67) else if k = 2 then T = [sb (iI v)]
  else if k < 5 then T = spL v else if k = 7 then T = X else shM (if k = 6 then 0 else 1) (if k = 6 then u else u % 4294967296) T
set_option maxRecDepth 10000 in
theorem told144 {L : Nat} (hL2 : L ≤ 150000) {a : Nat} (ha : a < 16) {X : List Int32} {tl : Nat → Int32} {tx : Nat → Nat → Int32} (hX : TP (tl a) (tx a) X) (hXl : X.length ≤ 200) (kc : Nat → Int32) (cv : Int32) (vc : Nat → Int64) (bi le us xn hn ln xp dn dp un up_ lp hp : Int32) (xd hd ld dd ud : Nat → Int32) (lc : Nat → Int64) (sp : Nat → Int32) :
    ∀ (d j m : Nat) (E : List Int32) (h : Int32) (c : Nat → Int32) (bl : Nat), j + d = X.length → d < m → MB h c bl E → E.length + d < L → bl ≤ 400000 → OUT πT (f_Md_told_144 m (iI a) (iI j) kc cv vc bi le us xn xd lc hn hd ln ld xp dn dd dp un ud up_ lp hp h sp tl c bl tx) bl L (MBT (E ++ X.drop j))
  | 0, j, m + 1, E, h, c, bl, hj, hm, hM, hL, hbl => by
    obtain ⟨hb, h2, h3⟩ := hX
    rw [f_Md_told_144, if_pos (show gx_ok (iI (a : Int)) 16 = true from by simp (disch := omega) only [iI_lit, iL_lit, iI_add, iI_sub, iI_mul, iI_neg, iL_add, iL_sub, iL_mul, iL_neg, iI_lt, iI_le, iI_eq, iL_lt, iL_le, iL_eqS, iI_c, iI_ok, iI_l, iL_i, iI_low, l_ushrI, l_shlI, l_shrI, i_shlI, i_shrI, i_ushrI, iI_div, iL_div, Int.toNat_natCast, Int.reduceToNat, iI_ofNat]; omega), iI_c (by omega) (by omega), Int.toNat_natCast, if_pos (show tl a ≤ iI (j : Int) from by rw [hb]; simp (disch := omega) only [iI_lit, iL_lit, iI_add, iI_sub, iI_mul, iI_neg, iL_add, iL_sub, iL_mul, iL_neg, iI_lt, iI_le, iI_eq, iL_lt, iL_le, iL_eqS, iI_c, iI_ok, iI_l, iL_i, iI_low, l_ushrI, l_shlI, l_shrI, i_shlI, i_shrI, i_ushrI, iI_div, iL_div, Int.toNat_natCast, Int.reduceToNat, iI_ofNat]; omega), List.drop_of_length_le (by omega), List.append_nil]
    exact ⟨_, rfl, Nat.le_refl _, Nat.le_max_left _ _, hM⟩
  | d + 1, j, m + 1, E, h, c, bl, hj, hm, hM, hL, hbl => by
    have hX' := hX
    obtain ⟨hb, h2, h3⟩ := hX
    have hjl : j < X.length := by omega
    have hok : gx_ok (iI (a : Int)) 16 = true := by simp (disch := omega) only [iI_lit, iL_lit, iI_add, iI_sub, iI_mul, iI_neg, iL_add, iL_sub, iL_mul, iL_neg, iI_lt, iI_le, iI_eq, iL_lt, iL_le, iL_eqS, iI_c, iI_ok, iI_l, iL_i, iI_low, l_ushrI, l_shlI, l_shrI, i_shlI, i_shrI, i_ushrI, iI_div, iL_div, Int.toNat_natCast, Int.reduceToNat, iI_ofNat]; omega
    rw [f_Md_told_144, if_pos hok, iI_c (by omega) (by omega), Int.toNat_natCast, if_neg (show ¬ tl a ≤ iI (j : Int) from by rw [hb]; simp (disch := omega) only [iI_lit, iL_lit, iI_add, iI_sub, iI_mul, iI_neg, iL_add, iL_sub, iL_mul, iL_neg, iI_lt, iI_le, iI_eq, iL_lt, iL_le, iL_eqS, iI_c, iI_ok, iI_l, iL_i, iI_low, l_ushrI, l_shlI, l_shrI, i_shlI, i_shrI, i_ushrI, iI_div, iL_div, Int.toNat_natCast, Int.reduceToNat, iI_ofNat]; omega)]
    simp only [if_pos hok, if_pos (show gx_ok (iI (j : Int)) 200 = true from by simp (disch := omega) only [iI_lit, iL_lit, iI_add, iI_sub, iI_mul, iI_neg, iL_add, iL_sub, iL_mul, iL_neg, iI_lt, iI_le, iI_eq, iL_lt, iL_le, iL_eqS, iI_c, iI_ok, iI_l, iL_i, iI_low, l_ushrI, l_shlI, l_shrI, i_shlI, i_shrI, i_ushrI, iI_div, iL_div, Int.toNat_natCast, Int.reduceToNat, iI_ofNat]; omega)]
    rw [iI_c (by omega) (by omega), Int.toNat_natCast, h2 j X[j] (List.getElem?_eq_getElem hjl), show iI (j : Int) + 1 = iI ((j + 1 : Nat) : Int) from by rw [show (1 : Int32) = iI 1 from rfl, iI_add]; rfl]
    refine OUT_bind (OUT_put hM (by omega) (by omega) hbl X[j]) (fun u hu g1 g2 => ?_)
    rw [h3 X[j] (List.getElem_mem hjl)] at hu
    have := told144 hL2 ha hX' hXl kc cv vc bi le us xn hn ln xp dn dp un up_ lp hp xd hd ld dd ud lc sp d (j + 1) m (E ++ [X[j]]) u.1 u.2.1 u.2.2 (by omega) (by omega) hu (by simp; omega) (by omega)
    rw [List.append_assoc, List.singleton_append, List.getElem_cons_drop] at this
    exact this
set_option maxRecDepth 10000 in
theorem told_spec {L : Nat} (hL2 : L ≤ 150000) {E : List Int32} {k v u cv : Int} (hk0 : 0 ≤ k) (hk7 : k ≤ 7) (hv0 : -9223372036854775808 ≤ v) (hv1 : v < 9223372036854775808) (hu0 : 0 ≤ u) (hu1 : u < 18446744073709551616) (hvu : iL v = iL u) (hcv0 : 0 ≤ cv) (hcv1 : cv < 128) (hE : E.length + 6000 < L) {kc : Nat → Int32} {vc : Nat → Int64} {a : Nat} (ha : a < 16) (hka : kc a = iI k) (hva : vc a = iL v) {X : List Int32} {tl : Nat → Int32} {tx : Nat → Nat → Int32} (hX : k = 7 → TP (tl a) (tx a) X ∧ X.length ≤ 200) (bi le us xn hn ln xp dn dp un up_ lp hp : Int32) (xd hd ld dd ud : Nat → Int32) (lc : Nat → Int64) (sp : Nat → Int32) {h : Int32} {c : Nat → Int32} {bl : Nat} (hM : MB h c bl E) (hbl : bl ≤ 400000) :
    OUT πT (f_Md_told (iI a) kc (iI cv) vc bi le us xn xd lc hn hd ln ld xp dn dd dp un ud up_ lp hp h sp tl c bl tx) bl L (fun r => ∃ T, TLD (inW 66 cv) k v u X T ∧ MBT (E ++ T) r) := by
  have hok : gx_ok (iI (a : Int)) 16 = true := by simp (disch := omega) only [iI_lit, iL_lit, iI_add, iI_sub, iI_mul, iI_neg, iL_add, iL_sub, iL_mul, iL_neg, iI_lt, iI_le, iI_eq, iL_lt, iL_le, iL_eqS, iI_c, iI_ok, iI_l, iL_i, iI_low, l_ushrI, l_shlI, l_shrI, i_shlI, i_shrI, i_ushrI, iI_div, iL_div, Int.toNat_natCast, Int.reduceToNat, iI_ofNat]; omega
  unfold f_Md_told
  apply OUT_mo
  rw [if_pos hok, one_spec (o := 66) (by omega) hcv0 hcv1, Option.bind_some, iI_c (by omega) (by omega), Int.toNat_natCast, hka, hva]
  simp only [if_pos hok]
  have lit : ∀ o : Nat, o < 74 → gl_len.getD o 0 ≤ 100 → OUT πT ((f_Md_put2 o h c bl).bind fun u47 => gx_mo πT u47.2.2 (if bl ≤ u47.2.2 then some (bi, le, us, xn, xd, lc, hn, hd, ln, ld, xp, dn, dd, dp, un, ud, up_, lp, hp, u47.1, sp, u47.2.1, u47.2.2) else none)) bl L (MBT (E ++ litL o)) := by
    intro o ho hl
    exact OUT_bind (OUT_of (put2_spec ho (by omega) hM (by omega) hbl)) (fun w hw g1 g2 => ⟨_, rfl, Nat.le_refl _, Nat.le_max_left _ _, hw⟩)
  have kq : ∀ j : Int, 0 ≤ j → j ≤ 7 → (iI k = iI j) = (k = j) := fun j j0 j7 => by rw [iI_eq (by omega) (by omega) (by omega) (by omega)]
  have k0 : (iI k = (0 : Int32)) = (k = 0) := kq 0 (by omega) (by omega)
  have k1 : (iI k = (1 : Int32)) = (k = 1) := kq 1 (by omega) (by omega)
  have k2 : (iI k = (2 : Int32)) = (k = 2) := kq 2 (by omega) (by omega)
  have k6 : (iI k = (6 : Int32)) = (k = 6) := kq 6 (by omega) (by omega)
  have k7 : (iI k = (7 : Int32)) = (k = 7) := kq 7 (by omega) (by omega)
  have k5 : ((5 : Int32) ≤ iI k) = (5 ≤ k) := by rw [show (5 : Int32) = iI 5 from rfl, iI_le (by omega) (by omega) (by omega) (by omega)]
  have v1 : (iL v = (1 : Int64)) = (v = 1) := by rw [show (1 : Int64) = iL 1 from rfl, iL_eqS (by omega) (by omega) (by omega) (by omega)]
  have v0 : (iL v = (0 : Int64)) = (v = 0) := by rw [show (0 : Int64) = iL 0 from rfl, iL_eqS (by omega) (by omega) (by omega) (by omega)]
  simp only [k0, k1, k2, k6, k7, k5, v1, v0]
  unfold TLD f_Md_told_38 f_Md_told_44 f_Md_told_47 f_Md_told_93
  by_cases qb : inW 66 cv
  · rw [if_pos qb, if_neg (show ¬ (1 : Int32) = 0 from by decide)]
    simp only [if_pos qb]
    by_cases q0 : k = 0
    · rw [if_pos q0]
      exact OUT_imp (lit 67 (by omega) (by decide)) (fun r hr => ⟨_, by rw [if_pos (Or.inl q0)], hr⟩)
    · rw [if_neg q0]
      by_cases q1 : k = 1
      · rw [if_pos q1]
        by_cases qv : v = 0
        · rw [if_pos qv]
          exact OUT_imp (lit 67 (by omega) (by decide)) (fun r hr => ⟨_, by rw [if_pos (Or.inr ⟨q1, qv⟩)], hr⟩)
        · rw [if_neg qv]
          exact OUT_imp (lit 68 (by omega) (by decide)) (fun r hr => ⟨_, by rw [if_neg (fun x => by rcases x with x | x; exact q0 x; exact qv x.2)], hr⟩)
      · rw [if_neg q1]
        exact OUT_imp (lit 68 (by omega) (by decide)) (fun r hr => ⟨_, by rw [if_neg (fun x => by rcases x with x | x; exact q0 x; exact q1 x.1)], hr⟩)
  · rw [if_neg qb, if_pos rfl]
    simp only [if_neg qb]
    by_cases q0 : k = 0
    · rw [if_pos q0]
      simp only [if_pos q0]
      exact OUT_imp (lit 69 (by omega) (by decide)) (fun r hr => ⟨_, rfl, hr⟩)
    · rw [if_neg q0]
      simp only [if_neg q0]
      by_cases q1 : k = 1
      · rw [if_pos q1]
        simp only [if_pos q1]
        by_cases qv : v = 1
        · rw [if_pos qv]
          simp only [if_pos qv]
          exact OUT_imp (lit 68 (by omega) (by decide)) (fun r hr => ⟨_, rfl, hr⟩)
        · rw [if_neg qv]
          simp only [if_neg qv]
          exact OUT_imp (lit 67 (by omega) (by decide)) (fun r hr => ⟨_, rfl, hr⟩)
      · rw [if_neg q1]
        simp only [if_neg q1]
        by_cases q2 : k = 2
        · rw [if_pos q2]
          simp only [if_pos q2]
          rw [iL_i]
          exact OUT_bind (OUT_put hM (by omega) (by omega) hbl (iI v)) (fun w hw g1 g2 => ⟨_, rfl, Nat.le_refl _, Nat.le_max_left _ _, _, rfl, hw⟩)
        · rw [if_neg q2]
          simp only [if_neg q2]
          by_cases q5 : 5 ≤ k
          · rw [if_pos q5]
            simp only [if_neg (show ¬ k < 5 by omega)]
            by_cases q7 : k = 7
            · rw [if_pos q7]
              simp only [if_pos q7]
              obtain ⟨hX1, hX2⟩ := hX q7
              have := told144 hL2 ha hX1 hX2 kc (iI cv) vc bi le us xn hn ln xp dn dp un up_ lp hp xd hd ld dd ud lc sp X.length 0 gx_fu E h c bl (by omega) (by have := fu_pos; omega) hM (by omega) hbl
              rw [List.drop_zero] at this
              exact OUT_imp this (fun r hr => ⟨_, rfl, hr⟩)
            · rw [if_neg q7]
              simp only [if_neg q7]
              unfold f_Md_told_187 f_Md_told_216
              simp only [if_pos hok, k6]
              rw [iI_c (by omega) (by omega), Int.toNat_natCast, hva]
              by_cases q6 : k = 6
              · rw [if_pos q6]
                simp only [if_pos q6]
                rw [show f_Md_kind (1 : Int32) bi le = some (iI (szD 0), iI (szL 0)) from kind_spec (s := 0) (by omega) bi le, Option.bind_some, hvu]
                obtain ⟨F, hF, hO⟩ := printed_spec (s := 0) (by omega) (u := u) ⟨hu0, by rw [if_pos rfl]; exact hu1⟩ (L := L) (by omega) hM (by omega) hbl us xn hn ln xp hp lp dn dp un up_ xd hd ld dd ud sp lc
                exact OUT_bind hO (fun w hw g1 g2 => ⟨_, rfl, Nat.le_refl _, Nat.le_max_left _ _, F, hF, hw⟩)
              · rw [if_neg q6]
                simp only [if_neg q6]
                rw [show f_Md_kind (0 : Int32) bi le = some (iI (szD 1), iI (szL 1)) from kind_spec (s := 1) (by omega) bi le, Option.bind_some, hvu, show (4294967295 : Int64) = iL 4294967295 from rfl, iL_lowL hu0 hu1]
                obtain ⟨F, hF, hO⟩ := printed_spec (s := 1) (by omega) (u := u % 4294967296) ⟨by omega, by rw [if_neg (by decide)]; omega⟩ (L := L) (by omega) hM (by omega) hbl us xn hn ln xp hp lp dn dp un up_ xd hd ld dd ud sp lc
                exact OUT_bind hO (fun w hw g1 g2 => ⟨_, rfl, Nat.le_refl _, Nat.le_max_left _ _, F, hF, hw⟩)
          · rw [if_neg q5]
            simp only [if_pos (show k < 5 by omega)]
            exact OUT_bind (pn_spec hv0 hv1 sp (by omega) hM (by omega) hbl) (fun w hw g1 g2 => ⟨_, rfl, Nat.le_refl _, Nat.le_max_left _ _, _, rfl, hw⟩)
-- UH
set_option maxRecDepth 10000 in
abbrev TS := Int32 × Int32 × Int32 × Int32 × Int32 × (Nat → Int32) × (Nat → Int64) × Int32 × (Nat → Int32) × Int32 × (Nat → Int32) × Int32 × Int32 × (Nat → Int32) × Int32 × Int32 × (Nat → Int32) × Int32 × Int32 × Int32 × (Nat → Int32) × Int32 × Int32 × Int32 × (Nat → Int32) × Int32 × Int32 × Int32 × (Nat → Int32) × (Nat → Int32) × Nat
set_option maxRecDepth 10000 in
abbrev πS (r : TS) : Nat := r.2.2.2.2.2.2.2.2.2.2.2.2.2.2.2.2.2.2.2.2.2.2.2.2.2.2.2.2.2.2
set_option maxRecDepth 10000 in
abbrev MBS (E : List Int32) (r : TS) : Prop := MB r.1 r.2.2.2.2.2.2.2.2.2.2.2.2.2.2.2.2.2.2.2.2.2.2.2.2.2.2.2.2.2.1 r.2.2.2.2.2.2.2.2.2.2.2.2.2.2.2.2.2.2.2.2.2.2.2.2.2.2.2.2.2.2 E
set_option maxRecDepth 10000 in
theorem MB_upd {h : Int32} {c : Nat → Int32} {bl : Nat} {A B : List Int32} {x y : Int32} (hM : MB h c bl (A ++ (x :: B))) (hy : sb y = y) : MB h (upd c A.length y) bl (A ++ (y :: B)) := by
  obtain ⟨h1, h2, h3, h4, h5⟩ := hM
  refine ⟨by rw [h1]; simp, by simp at h2 ⊢; omega, h3, ?_, ?_⟩
  · intro i z hi
    by_cases q : i = A.length
    · subst q
      rw [upd_s]
      simpa using hi
    · rw [upd_n q]
      apply h4 i
      by_cases w : i < A.length
      · rw [List.getElem?_append_left w] at hi ⊢; exact hi
      · rw [List.getElem?_append_right (by omega)] at hi ⊢
        obtain ⟨k, hk⟩ : ∃ k, i - A.length = k + 1 := ⟨i - A.length - 1, by omega⟩
        rw [hk] at hi ⊢
        simpa using hi
  · intro z hz
    rw [List.mem_append, List.mem_cons] at hz
    rcases hz with hz | hz | hz
    · exact h5 z (by simp [hz])
    · rw [hz]; exact hy
    · exact h5 z (by simp [hz])
set_option maxRecDepth 10000 in
theorem up150 {L : Nat} {E Q : List Int32} (hEQ : E.length + Q.length ≤ 400000) (cv pr wd : Int32) (kc fc tl : Nat → Int32) (vc lc : Nat → Int64) (bi le us xn hn ln xp dn dp un up_ lp hp uu crn crp bo ng no : Int32) (xd hd ld dd ud sp crd yb : Nat → Int32) (tx : Nat → Nat → Int32) {h : Int32} {bl : Nat} (hbl : bl ≤ 400000) :
    ∀ (d j m : Nat) (c : Nat → Int32), j + d = Q.length → d < m → MB h c bl (E ++ ((Q.take j).map upB ++ Q.drop j)) → OUT πS (f_Md_shown_150 m (iI ((E.length + j : Nat) : Int)) h cv kc vc bi le us xn xd lc hn hd ln ld xp dn dd dp un ud up_ lp hp sp tl pr wd fc uu crn crp crd bo ng no yb c bl tx) bl L (MBS (E ++ Q.map upB))
  | 0, j, m + 1, c, hj, hm, hM => by
    have hl : (E ++ ((Q.take j).map upB ++ Q.drop j)).length = E.length + Q.length := by simp; omega
    rw [f_Md_shown_150, if_pos (show h ≤ iI ((E.length + j : Nat) : Int) from by rw [hM.1, hl]; simp (disch := omega) only [iI_lit, iL_lit, iI_add, iI_sub, iI_mul, iI_neg, iL_add, iL_sub, iL_mul, iL_neg, iI_lt, iI_le, iI_eq, iL_lt, iL_le, iL_eqS, iI_c, iI_ok, iI_l, iL_i, iI_low, l_ushrI, l_shlI, l_shrI, i_shlI, i_shrI, i_ushrI, iI_div, iL_div, Int.toNat_natCast, Int.reduceToNat, iI_ofNat]; omega)]
    rw [List.take_of_length_le (by omega), List.drop_of_length_le (by omega), List.append_nil] at hM
    exact ⟨_, rfl, Nat.le_refl _, Nat.le_max_left _ _, hM⟩
  | d + 1, j, m + 1, c, hj, hm, hM => by
    have hl : (E ++ ((Q.take j).map upB ++ Q.drop j)).length = E.length + Q.length := by simp; omega
    have hjl : j < Q.length := by omega
    have hlb : E.length + Q.length ≤ bl := by have := hM.2.1; rw [hl] at this; exact this
    have hA : (E ++ (Q.take j).map upB).length = E.length + j := by simp; omega
    have hsplit : E ++ ((Q.take j).map upB ++ Q.drop j) = (E ++ (Q.take j).map upB) ++ (Q[j] :: Q.drop (j + 1)) := by
      rw [List.getElem_cons_drop, List.append_assoc]
    have hx : c (E.length + j) = Q[j] := by
      apply hM.2.2.2.1
      rw [hsplit, List.getElem?_append_right (by omega), hA, Nat.sub_self]; rfl
    have hsx : sb Q[j] = Q[j] := hM.2.2.2.2 _ (by rw [hsplit]; exact List.mem_append_right _ List.mem_cons_self)
    have hok : gx_ok (iI ((E.length + j : Nat) : Int)) bl = true := by simp (disch := omega) only [iI_lit, iL_lit, iI_add, iI_sub, iI_mul, iI_neg, iL_add, iL_sub, iL_mul, iL_neg, iI_lt, iI_le, iI_eq, iL_lt, iL_le, iL_eqS, iI_c, iI_ok, iI_l, iL_i, iI_low, l_ushrI, l_shlI, l_shrI, i_shlI, i_shrI, i_ushrI, iI_div, iL_div, Int.toNat_natCast, Int.reduceToNat, iI_ofNat]; omega
    have hnext : (Q.take (j + 1)).map upB ++ Q.drop (j + 1) = (Q.take j).map upB ++ (upB Q[j] :: Q.drop (j + 1)) := by
      rw [List.take_succ_eq_append_getElem hjl, List.map_append, List.append_assoc]; rfl
    rw [f_Md_shown_150, if_neg (show ¬ h ≤ iI ((E.length + j : Nat) : Int) from by rw [hM.1, hl]; simp (disch := omega) only [iI_lit, iL_lit, iI_add, iI_sub, iI_mul, iI_neg, iL_add, iL_sub, iL_mul, iL_neg, iI_lt, iI_le, iI_eq, iL_lt, iL_le, iL_eqS, iI_c, iI_ok, iI_l, iL_i, iI_low, l_ushrI, l_shlI, l_shrI, i_shlI, i_shrI, i_ushrI, iI_div, iL_div, Int.toNat_natCast, Int.reduceToNat, iI_ofNat]; omega)]
    unfold f_Md_shown_192
    simp only [if_pos hok]
    rw [iI_c (by omega) (by omega), Int.toNat_natCast, hx]
    have ej : iI ((E.length + j : Nat) : Int) + 1 = iI ((E.length + (j + 1) : Nat) : Int) := by rw [show (1 : Int32) = iI 1 from rfl, iI_add]; rfl
    rw [ej]
    obtain ⟨a, a0, a1, ea⟩ := sb_of hsx
    have eu : ub Q[j] = if 0 ≤ a then a else a + 256 := by
      rw [ea]; unfold ub; rw [u3_m]; split <;> omega
    have same : upB Q[j] = Q[j] → OUT πS (f_Md_shown_150 m (iI ((E.length + (j + 1) : Nat) : Int)) h cv kc vc bi le us xn xd lc hn hd ln ld xp dn dd dp un ud up_ lp hp sp tl pr wd fc uu crn crp crd bo ng no yb c bl tx) bl L (MBS (E ++ Q.map upB)) := by
      intro hs
      refine up150 hEQ cv pr wd kc fc tl vc lc bi le us xn hn ln xp dn dp un up_ lp hp uu crn crp bo ng no xd hd ld dd ud sp crd yb tx hbl d (j + 1) m c (by omega) (by omega) ?_
      rw [hnext, hs, List.getElem_cons_drop]
      exact hM
    by_cases q1 : a < 97
    · rw [if_pos (show Q[j] < 97 from by rw [ea]; simp (disch := omega) only [iI_lit, iL_lit, iI_add, iI_sub, iI_mul, iI_neg, iL_add, iL_sub, iL_mul, iL_neg, iI_lt, iI_le, iI_eq, iL_lt, iL_le, iL_eqS, iI_c, iI_ok, iI_l, iL_i, iI_low, l_ushrI, l_shlI, l_shrI, i_shlI, i_shrI, i_ushrI, iI_div, iL_div, Int.toNat_natCast, Int.reduceToNat, iI_ofNat]; omega)]
      exact same (by unfold upB; rw [eu, if_neg (by split <;> omega)])
    · rw [if_neg (show ¬ Q[j] < 97 from by rw [ea]; simp (disch := omega) only [iI_lit, iL_lit, iI_add, iI_sub, iI_mul, iI_neg, iL_add, iL_sub, iL_mul, iL_neg, iI_lt, iI_le, iI_eq, iL_lt, iL_le, iL_eqS, iI_c, iI_ok, iI_l, iL_i, iI_low, l_ushrI, l_shlI, l_shrI, i_shlI, i_shrI, i_ushrI, iI_div, iL_div, Int.toNat_natCast, Int.reduceToNat, iI_ofNat]; omega)]
      by_cases q2 : 122 < a
      · rw [if_pos (show (122 : Int32) < Q[j] from by rw [ea]; simp (disch := omega) only [iI_lit, iL_lit, iI_add, iI_sub, iI_mul, iI_neg, iL_add, iL_sub, iL_mul, iL_neg, iI_lt, iI_le, iI_eq, iL_lt, iL_le, iL_eqS, iI_c, iI_ok, iI_l, iL_i, iI_low, l_ushrI, l_shlI, l_shrI, i_shlI, i_shrI, i_ushrI, iI_div, iL_div, Int.toNat_natCast, Int.reduceToNat, iI_ofNat]; omega)]
        exact same (by unfold upB; rw [eu, if_neg (by split <;> omega)])
      · rw [if_neg (show ¬ (122 : Int32) < Q[j] from by rw [ea]; simp (disch := omega) only [iI_lit, iL_lit, iI_add, iI_sub, iI_mul, iI_neg, iL_add, iL_sub, iL_mul, iL_neg, iI_lt, iI_le, iI_eq, iL_lt, iL_le, iL_eqS, iI_c, iI_ok, iI_l, iL_i, iI_low, l_ushrI, l_shlI, l_shrI, i_shlI, i_shrI, i_ushrI, iI_div, iL_div, Int.toNat_natCast, Int.reduceToNat, iI_ofNat]; omega)]
        have hub : upB Q[j] = iI (a - 32) := by
          unfold upB; rw [eu, if_pos (show 0 ≤ a by omega), if_pos (by omega)]
        have hv : vp_nar .byte ((Q[j] - 32).toInt8.toInt32) = iI (a - 32) := by
          rw [nar_b, ea, show (32 : Int32) = iI 32 from rfl, iI_sub]; exact sb_small (by omega) (by omega)
        rw [hv]
        refine up150 hEQ cv pr wd kc fc tl vc lc bi le us xn hn ln xp dn dp un up_ lp hp uu crn crp bo ng no xd hd ld dd ud sp crd yb tx hbl d (j + 1) m _ (by omega) (by omega) ?_
        rw [hsplit] at hM
        have := MB_upd hM (sb_small (a := a - 32) (by omega) (by omega))
        rw [hA] at this
        rw [hnext, hub, ← List.append_assoc]
        exact this
set_option maxRecDepth 10000 in
theorem up137 {L : Nat} {E Q : List Int32} (hEQ : E.length + Q.length ≤ 400000) {cv : Int} (cv0 : 0 ≤ cv) (cv1 : cv < 128) (pr wd : Int32) (kc fc tl : Nat → Int32) (vc lc : Nat → Int64) (bi le us xn hn ln xp dn dp un up_ lp hp uu crn crp bo ng no : Int32) (xd hd ld dd ud sp crd yb : Nat → Int32) (tx : Nat → Nat → Int32) {h : Int32} {c : Nat → Int32} {bl : Nat} (hbl : bl ≤ 400000) (hM : MB h c bl (E ++ Q)) :
    OUT πS (f_Md_shown_137 (iI E.length) h (iI cv) kc vc bi le us xn xd lc hn hd ln ld xp dn dd dp un ud up_ lp hp sp tl pr wd fc uu crn crp crd bo ng no yb c bl tx) bl L (MBS (E ++ upE (inW 73 cv) Q)) := by
  unfold f_Md_shown_137 upE
  rw [one_spec (o := 73) (by omega) cv0 cv1, Option.bind_some]
  by_cases q : inW 73 cv
  · rw [if_pos q, if_neg (show ¬ (1 : Int32) = 0 from by decide)]
    simp only [if_pos q]
    have := up150 (L := L) hEQ (iI cv) pr wd kc fc tl vc lc bi le us xn hn ln xp dn dp un up_ lp hp uu crn crp bo ng no xd hd ld dd ud sp crd yb tx hbl Q.length 0 gx_fu c (by omega) (by have := fu_big; omega) (by simpa using hM)
    exact this
  · rw [if_neg q, if_pos rfl]
    simp only [if_neg q]
    exact ⟨_, rfl, Nat.le_refl _, Nat.le_max_left _ _, hM⟩
-- UI
set_option maxRecDepth 10000 in
def cutT (pr : Int) (T : List Int32) : List Int32 := if 0 ≤ pr ∧ pr < T.length then T.take pr.toNat else T
set_option maxRecDepth 10000 in
theorem cutT_len (pr : Int) (T : List Int32) : (cutT pr T).length ≤ T.length := by unfold cutT; split <;> simp; omega
set_option maxRecDepth 10000 in
def unX (k u : Int) : Int := if k = 3 then u % 4294967296 else u
set_option maxRecDepth 10000 in
def unS (cv : Int) : Nat := if cv = 111 then 3 else 4
set_option maxRecDepth 10000 in
def unP (cv : Int) (fc : Nat → Int32) : List Int32 := if fc 1 ≤ 0 then [] else if cv = 111 then litL 71 else litL 72
set_option maxRecDepth 10000 in
def DQ (cv k v u : Int) (X : List Int32) (pr w : Int) (fc : Nat → Int32) (Q : List Int32) : Prop :=
  if inW 63 cv ∨ k = 0 then ∃ T, TLD (inW 66 cv) k v u X T ∧ Q = upE (inW 73 cv) (layP w (cutT pr T) (¬ fc 0 ≤ 0))
  else if inW 64 cv then Q = upE (inW 73 cv) (layP w [sb (iI v)] (¬ fc 0 ≤ 0))
  else if inW 53 cv then ∃ d, RN (unX k u) (unS cv) d ∧ Q = upE (inW 73 cv) (layT w (unP cv fc) (rdxL (unX k u) (unS cv) d) False False (¬ fc 4 ≤ 0) (¬ fc 0 ≤ 0))
  else if inW 51 cv then Q = upE (inW 73 cv) (layT w (sgM (iI (if v < 0 then 1 else 0)) 0 fc) (wholeD v (¬ fc 5 ≤ 0)) (rdM (iI (if v < 0 then 1 else 0)) fc) False (¬ fc 4 ≤ 0) (¬ fc 0 ≤ 0))
  else ∃ Q0, FQ (if k = 6 then 0 else 1) u (flLe cv) pr w fc Q0 ∧ Q = upE (inW 73 cv) Q0
set_option maxRecDepth 10000 in
theorem RN_ex {x : Int} (x0 : 0 ≤ x) (x1 : x < 18446744073709551616) {st : Nat} (hst : st = 3 ∨ st = 4) : ∃ d, RN x st d ∧ d ≤ 22 := by
  obtain ⟨_, _, _, d, _, h1, h2, _⟩ := fb63 (n := 5) (by omega) x0 x1 hst 5 0 0 0 0 (fun _ => 0) (BY_nil 5 (fun _ => 0))
  exact ⟨d, h1, h2⟩
set_option maxRecDepth 10000 in
theorem MB_take {h : Int32} {c : Nat → Int32} {bl : Nat} {E T : List Int32} {p : Nat} (hM : MB h c bl (E ++ T)) (hp : p ≤ T.length) : MB (iI ((E.length + p : Nat) : Int)) c bl (E ++ T.take p) := by
  obtain ⟨h1, h2, h3, h4, h5⟩ := hM
  refine ⟨?_, ?_, h3, ?_, ?_⟩
  · congr 2; simp; omega
  · simp at h2 ⊢; omega
  · intro i x hi
    apply h4 i x
    by_cases w : i < E.length
    · rw [List.getElem?_append_left w] at hi ⊢; exact hi
    · rw [List.getElem?_append_right (by omega)] at hi ⊢
      rw [List.getElem?_take] at hi
      split at hi
      · exact hi
      · exact absurd hi (by simp)
  · intro x hx
    rw [List.mem_append] at hx
    rcases hx with hx | hx
    · exact h5 x (by simp [hx])
    · exact h5 x (by rw [List.mem_append]; exact Or.inr (List.mem_of_mem_take hx))
set_option maxRecDepth 10000 in
theorem munsigned_spec {L : Nat} (hL2 : L ≤ 150000) {E : List Int32} {k u v cv : Int} (hk : k = 3 ∨ k = 4) (hu0 : 0 ≤ u) (hu1 : u < 18446744073709551616) (hvu : iL v = iL u) (hcv : cv = 111 ∨ cv = 120 ∨ cv = 88) {w : Int} (hw0 : -1 ≤ w) (hw1 : w ≤ 9999) (hE : E.length + 20000 < L) (fc : Nat → Int32) (hzl : ¬ (¬ fc 4 ≤ 0 ∧ ¬ fc 0 ≤ 0)) {kc : Nat → Int32} {vc : Nat → Int64} {a : Nat} (ha : a < 16) (hka : kc a = iI k) (hva : vc a = iL v) (sp : Nat → Int32) {h : Int32} {c : Nat → Int32} {bl : Nat} (hM : MB h c bl E) (hbl : bl ≤ 400000) :
    OUT πQ (f_Md_unsigned (iI a) h kc vc fc (iI cv) sp (iI w) c bl) bl L (fun r => ∃ d, RN (unX k u) (unS cv) d ∧ d ≤ 22 ∧ MBQ (E ++ layT w (unP cv fc) (rdxL (unX k u) (unS cv) d) False False (¬ fc 4 ≤ 0) (¬ fc 0 ≤ 0)) r) := by
  have hok : gx_ok (iI (a : Int)) 16 = true := by simp (disch := omega) only [iI_lit, iL_lit, iI_add, iI_sub, iI_mul, iI_neg, iL_add, iL_sub, iL_mul, iL_neg, iI_lt, iI_le, iI_eq, iL_lt, iL_le, iL_eqS, iI_c, iI_ok, iI_l, iL_i, iI_low, l_ushrI, l_shlI, l_shrI, i_shlI, i_shrI, i_ushrI, iI_div, iL_div, Int.toNat_natCast, Int.reduceToNat, iI_ofNat]; omega
  have hx0 : 0 ≤ unX k u := by unfold unX; split <;> omega
  have hx1 : unX k u < 18446744073709551616 := by unfold unX; split <;> omega
  have hst : unS cv = 3 ∨ unS cv = 4 := by unfold unS; split <;> simp
  obtain ⟨d, hR, hd⟩ := RN_ex hx0 hx1 hst
  unfold f_Md_unsigned
  apply OUT_mo
  simp only [if_pos hok]
  rw [iI_c (by omega) (by omega), Int.toNat_natCast, hka, hva, hvu]
  have hk3 : (iI k = (3 : Int32)) = (k = 3) := by rw [show (3 : Int32) = iI 3 from rfl, iI_eq (by omega) (by omega) (by omega) (by omega)]
  simp only [hk3]
  have e34 : (if k = 3 then (f_Md_unsigned_34 h (iL u &&& (4294967295 : Int64)) h kc vc fc (iI cv) sp (iI w) c bl) else (f_Md_unsigned_34 h (iL u) h kc vc fc (iI cv) sp (iI w) c bl)) = f_Md_unsigned_34 h (iL (unX k u)) h kc vc fc (iI cv) sp (iI w) c bl := by
    unfold unX
    by_cases q : k = 3
    · rw [if_pos q, if_pos q, show (4294967295 : Int64) = iL 4294967295 from rfl, iL_lowL hu0 hu1]
    · rw [if_neg q, if_neg q]
  rw [e34]
  have h70 : (if inW 70 cv then (1 : Int32) else 0) = (if cv = 111 then 1 else 0) := by rcases hcv with rfl | rfl | rfl <;> decide
  have tail : ∀ (T : List Int32) (h' : Int32) (c' : Nat → Int32) (bl' : Nat), T.length ≤ 5 → T = unP cv fc → MB h' c' bl' (E ++ T) → bl' ≤ 400000 → OUT πQ (f_Md_unsigned_67 h (iL (unX k u)) h' kc vc fc (iI cv) sp (iI w) c' bl') bl' L (fun r => ∃ d, RN (unX k u) (unS cv) d ∧ d ≤ 22 ∧ MBQ (E ++ layT w (unP cv fc) (rdxL (unX k u) (unS cv) d) False False (¬ fc 4 ≤ 0) (¬ fc 0 ≤ 0)) r) := by
    intro T h' c' bl' hT eT hM' hbl'
    unfold f_Md_unsigned_67
    rw [one_spec (o := 70) (by omega) (by omega) (by omega), Option.bind_some, h70, hM.1]
    have key := un84 hL2 hx0 hx1 hst hR hd hw0 hw1 hE kc fc vc (iI cv) hzl sp T hT hM' hbl'
    have e84 : (if (if cv = 111 then (1 : Int32) else 0) = 0 then (f_Md_unsigned_84 (iI E.length) (4 : Int32) (iL (unX k u)) h' kc vc fc (iI cv) sp (iI w) c' bl') else (f_Md_unsigned_84 (iI E.length) (3 : Int32) (iL (unX k u)) h' kc vc fc (iI cv) sp (iI w) c' bl')) = f_Md_unsigned_84 (iI E.length) (iI (unS cv)) (iL (unX k u)) h' kc vc fc (iI cv) sp (iI w) c' bl' := by
      unfold unS
      by_cases q : cv = 111
      · rw [if_pos q, if_neg (show ¬ (1 : Int32) = 0 from by decide), if_pos q]; rfl
      · rw [if_neg q, if_pos rfl, if_neg q]; rfl
    rw [e84]
    rw [← eT]
    exact OUT_imp key (fun r hr => ⟨d, hR, hd, hr⟩)
  unfold f_Md_unsigned_34 f_Md_unsigned_64
  rw [if_pos (show gx_ok (1 : Int32) 7 = true from by decide), one_spec (o := 70) (by omega) (by omega) (by omega), Option.bind_some, h70]
  show OUT πQ (if fc 1 ≤ 0 then _ else _) bl L _
  by_cases q1 : fc 1 ≤ 0
  · rw [if_pos q1]
    exact tail [] h c bl (by simp) (by unfold unP; rw [if_pos q1]) (by rw [List.append_nil]; exact hM) hbl
  · rw [if_neg q1]
    by_cases q : cv = 111
    · rw [if_pos q, if_neg (show ¬ (1 : Int32) = 0 from by decide)]
      refine OUT_bind (OUT_of (put2_spec (o := 71) (by omega) (by omega) hM (by rw [show gl_len.getD 71 0 = 1 from by decide]; omega) hbl)) (fun x hx g1 g2 => ?_)
      exact tail (litL 71) x.1 x.2.1 x.2.2 (by decide) (by unfold unP; rw [if_neg q1, if_pos q]) hx (by omega)
    · rw [if_neg q, if_pos rfl]
      refine OUT_bind (OUT_of (put2_spec (o := 72) (by omega) (by omega) hM (by rw [show gl_len.getD 72 0 = 2 from by decide]; omega) hbl)) (fun x hx g1 g2 => ?_)
      exact tail (litL 72) x.1 x.2.1 x.2.2 (by decide) (by unfold unP; rw [if_neg q1, if_neg q]) hx (by omega)
