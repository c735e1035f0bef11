-- XD
set_option maxRecDepth 10000 in
theorem dg_0 {δ : Nat → Nat} (h : ∀ i, δ i = 0) (j : Int) : dg δ j = 0 := by
  unfold dg; rw [h]; split <;> rfl
set_option maxRecDepth 10000 in
theorem rndF_0 {δ : Nat → Nat} (h : ∀ i, δ i = 0) (k : Int) (i : Nat) : rndF δ k i = 0 := by
  unfold rndF
  split
  · rfl
  · rw [h, if_neg (by omega)]
    unfold tr
    rw [h]; split <;> rfl
set_option maxRecDepth 10000 in
def digL (δ : Nat → Nat) (j d : Nat) : List Int32 := (List.range' j d).map (fun i : Nat => iI (48 + dg δ (i : Int)))
set_option maxRecDepth 10000 in
theorem digL_succ (δ : Nat → Nat) (j d : Nat) : digL δ j (d + 1) = [iI (48 + dg δ (j : Int))] ++ digL δ (j + 1) d := by
  unfold digL; rw [List.range'_succ]; rfl
set_option maxRecDepth 10000 in
theorem digE_L (δ : Nat → Nat) (j d : Nat) : digE δ (j : Int) d = digL δ j d := by
  unfold digE digL
  rw [show j = j + 0 from rfl, ← List.map_add_range', List.map_map]
  rfl
set_option maxRecDepth 10000 in
theorem digL_len (δ : Nat → Nat) (j d : Nat) : (digL δ j d).length = d := by unfold digL; simp
set_option maxRecDepth 10000 in
theorem digE_len (δ : Nat → Nat) (f : Int) (m : Nat) : (digE δ f m).length = m := by unfold digE; simp
set_option maxRecDepth 10000 in
def sciT (δ : Nat → Nat) (e a : Int) (sh : Prop) [Decidable sh] : List Int32 := [iI (48 + dg δ 0)] ++ (pntE a sh ++ (digE δ 1 a.toNat ++ expE e))
set_option maxRecDepth 10000 in
theorem msci49 {δ : Nat → Nat} {n : Nat} {cd : Nat → Int32} (hC : DL 1300 (iI n) cd n δ) {rn : Nat} (hrn : rn ≤ 1300) (hz : rn = 0 → ∀ i, δ i = 0) {a cp : Int} (a0 : 0 ≤ a) (a1 : a ≤ 9999) (h0 : rn ≠ 0 → -900 ≤ cp) (h1 : cp ≤ 900) (ap : Int32) (ad : Nat → Int32) :
    ∀ (d j m : Nat) (bl : Int32) (bc : Nat → Int32) (E : List Int32), (j : Int) + d = a + 1 → d < m → TP bl bc E → E.length + d + 10 < 12000 → ∃ bl' bc', f_Md_scientific_49 m (iI a) (iI j) (iI rn) ap ad (iI n) (iI cp) cd bl bc = some (iI n, iI cp, cd, bl', bc') ∧ TP bl' bc' (E ++ (digL δ j d ++ expE (if rn = 0 then 0 else cp - 1)))
  | 0, j, m + 1, bl, bc, E, hj, hm, h, hE => by
    rw [f_Md_scientific_49, if_pos (show iI a < iI (j : Int) from by simp (disch := omega) only [iI_lit, iL_lit, iI_add, iI_sub, iI_mul, iI_neg, iL_add, iL_sub, iL_mul, iL_neg, iI_lt, iI_le, iI_eq, iL_lt, iL_le, iL_eqS, iI_c, iI_ok, iI_l, iL_i, iI_low, l_ushrI, l_shlI, l_shrI, i_shlI, i_shrI, i_ushrI, iI_div, iL_div, Int.toNat_natCast, Int.reduceToNat, iI_ofNat]; omega)]
    have : digL δ j 0 = [] := rfl
    rw [this, List.nil_append]
    by_cases q : rn = 0
    · rw [if_pos (show iI (rn : Int) = 0 from by rw [q]; rfl), if_pos q]
      exact msci106 (e := 0) (by omega) (by omega) h (by omega) _ _ _ _ _ _
    · rw [if_neg (show ¬ iI (rn : Int) = 0 from by simp (disch := omega) only [iI_lit, iL_lit, iI_add, iI_sub, iI_mul, iI_neg, iL_add, iL_sub, iL_mul, iL_neg, iI_lt, iI_le, iI_eq, iL_lt, iL_le, iL_eqS, iI_c, iI_ok, iI_l, iL_i, iI_low, l_ushrI, l_shlI, l_shrI, i_shlI, i_shrI, i_ushrI, iI_div, iL_div, Int.toNat_natCast, Int.reduceToNat, iI_ofNat]; omega), if_neg q, show (1 : Int32) = iI 1 from rfl, iI_sub]
      have := h0 q
      exact msci106 (by omega) (by omega) h (by omega) _ _ _ _ _ _
  | d + 1, j, m + 1, bl, bc, E, hj, hm, h, hE => by
    have hd := dg_b hC.2.2.2.2 (j : Int)
    rw [f_Md_scientific_49, if_neg (show ¬ iI a < iI (j : Int) from by simp (disch := omega) only [iI_lit, iL_lit, iI_add, iI_sub, iI_mul, iI_neg, iL_add, iL_sub, iL_mul, iL_neg, iI_lt, iI_le, iI_eq, iL_lt, iL_le, iL_eqS, iI_c, iI_ok, iI_l, iL_i, iI_low, l_ushrI, l_shlI, l_shrI, i_shlI, i_shrI, i_ushrI, iI_div, iL_div, Int.toNat_natCast, Int.reduceToNat, iI_ofNat]; omega), mdig_spec hC (by omega) (by omega), Option.bind_some]
    unfold f_Md_scientific_77
    have e48 : rn = 0 → (48 : Int32) = iI (48 + dg δ (j : Int)) := fun q => by rw [dg_0 (hz q)]; rfl
    obtain ⟨b1, c1, e1, t1⟩ := madd_i h (by omega) (a := 48 + dg δ (j : Int)) (by omega) (by omega)
    obtain ⟨b2, c2, e2, t2⟩ := msci49 hC hrn hz a0 a1 h0 h1 ap ad d (j + 1) m b1 c1 _ (by omega) (by omega) t1 (by simp; omega)
    have ej : iI (j : Int) + 1 = iI ((j + 1 : Nat) : Int) := by rw [show (1 : Int32) = iI 1 from rfl, iI_add]; rfl
    have fin : ∃ bl' bc', ((f_Md_add (iI (48 + dg δ (j : Int))) bl bc).bind fun u77 => f_Md_scientific_49 m (iI a) (iI (j : Int) + 1) (iI rn) ap ad (iI n) (iI cp) cd u77.1 u77.2) = some (iI n, iI cp, cd, bl', bc') ∧ TP bl' bc' (E ++ (digL δ j (d + 1) ++ expE (if rn = 0 then 0 else cp - 1))) := by
      rw [e1, Option.bind_some, ej]
      refine ⟨b2, c2, e2, ?_⟩
      rw [digL_succ, List.append_assoc, ← List.append_assoc E]
      exact t2
    by_cases q : rn = 0
    · rw [if_pos (show iI (rn : Int) = 0 from by rw [q]; rfl), e48 q]
      exact fin
    · rw [if_neg (show ¬ iI (rn : Int) = 0 from by simp (disch := omega) only [iI_lit, iL_lit, iI_add, iI_sub, iI_mul, iI_neg, iL_add, iL_sub, iL_mul, iL_neg, iI_lt, iI_le, iI_eq, iL_lt, iL_le, iL_eqS, iI_c, iI_ok, iI_l, iL_i, iI_low, l_ushrI, l_shlI, l_shrI, i_shlI, i_shrI, i_ushrI, iI_div, iL_div, Int.toNat_natCast, Int.reduceToNat, iI_ofNat]; omega)]
      exact fin
set_option maxRecDepth 10000 in
theorem rndC_b (δ : Nat → Nat) (k : Int) : 0 ≤ rndC δ k ∧ rndC δ k ≤ 1 := by
  unfold rndC incC
  split
  · omega
  · split
    · split <;> omega
    · omega
set_option maxRecDepth 10000 in
theorem msci_spec {δ : Nat → Nat} {rn : Nat} {rd : Nat → Int32} (hD : DL 1300 (iI rn) rd rn δ) (hrn : rn < 1300) {a p : Int} (a0 : 0 ≤ a) (a1 : a ≤ 9999) (h0 : rn ≠ 0 → -800 ≤ p) (h1 : p ≤ 800) (sh cn cp : Int32) (cc : Nat → Int32) {bl : Int32} {bc : Nat → Int32} {E : List Int32} (h : TP bl bc E) (hE : E.length + 10020 < 12000) :
    ∃ crn crp crd bl' bc', f_Md_scientific (iI a) sh (iI rn) (iI p) rd cn cp cc bl bc = some (crn, crp, crd, bl', bc') ∧ TP bl' bc' (E ++ sciT (rndF δ (a + 1)) (if rn = 0 then 0 else p + rndC δ (a + 1) - 1) a (sh ≠ 0)) := by
  have hfu := fu_pos
  obtain ⟨n', c', e1, hC, _⟩ := rnd2_spec hD hrn (k := a + 1) (p := p) (by omega) (by omega) cn cp cc
  have hz : rn = 0 → ∀ i, rndF δ (a + 1) i = 0 := fun q i => rndF_0 (fun i => hD.2.2.2.1 i (by omega)) _ i
  have hrc := rndC_b δ (a + 1)
  have hd := dg_b hC.2.2.2.2 0
  unfold f_Md_scientific
  rw [show (1 : Int32) = iI 1 from rfl, iI_add, e1, Option.bind_some]
  dsimp only
  rw [show (0 : Int32) = iI 0 from rfl, mdig_spec hC (by omega) (by omega), Option.bind_some]
  generalize hδ : rndF δ (a + 1) = ε at *
  have fin : ∃ crn crp crd bl' bc', f_Md_scientific_29 (iI a) sh (iI (48 + dg ε 0)) (iI rn) (iI p) rd (iI n') (iI (p + rndC δ (a + 1))) c' bl bc = some (crn, crp, crd, bl', bc') ∧ TP bl' bc' (E ++ sciT ε (if rn = 0 then 0 else p + rndC δ (a + 1) - 1) a (sh ≠ 0)) := by
    unfold f_Md_scientific_29 f_Md_scientific_40 f_Md_scientific_46
    obtain ⟨b1, c1, e2, t1⟩ := madd_i h (by omega) (a := 48 + dg ε 0) (by omega) (by omega)
    rw [e2, Option.bind_some]
    dsimp only
    have eD : digE ε 1 a.toNat = digL ε 1 a.toNat := digE_L ε 1 a.toNat
    have noPt : ¬ (0 < a ∨ sh ≠ 0) → ∃ crn crp crd bl' bc', f_Md_scientific_49 gx_fu (iI a) (1 : Int32) (iI rn) (iI p) rd (iI n') (iI (p + rndC δ (a + 1))) c' b1 c1 = some (crn, crp, crd, bl', bc') ∧ TP bl' bc' (E ++ sciT ε (if rn = 0 then 0 else p + rndC δ (a + 1) - 1) a (sh ≠ 0)) := by
      intro q
      obtain ⟨b3, c3, e3, t3⟩ := msci49 hC (by omega) hz a0 a1 (cp := p + rndC δ (a + 1)) (fun q => by have := h0 q; omega) (by omega) (iI p) rd a.toNat 1 gx_fu b1 c1 _ (by omega) (by omega) t1 (by simp; omega)
      refine ⟨_, _, _, b3, c3, e3, ?_⟩
      unfold sciT pntE
      rw [if_neg q, List.nil_append, eD, ← List.append_assoc E]
      exact t3
    have pt : (0 < a ∨ sh ≠ 0) → ∃ crn crp crd bl' bc', ((f_Md_add (46 : Int32) b1 c1).bind fun u43 => f_Md_scientific_49 gx_fu (iI a) (1 : Int32) (iI rn) (iI p) rd (iI n') (iI (p + rndC δ (a + 1))) c' u43.1 u43.2) = some (crn, crp, crd, bl', bc') ∧ TP bl' bc' (E ++ sciT ε (if rn = 0 then 0 else p + rndC δ (a + 1) - 1) a (sh ≠ 0)) := by
      intro q
      obtain ⟨b2, c2, e3, t2⟩ := madd_i t1 (by simp; omega) (a := 46) (by omega) (by omega)
      obtain ⟨b3, c3, e4, t3⟩ := msci49 hC (by omega) hz a0 a1 (cp := p + rndC δ (a + 1)) (fun q => by have := h0 q; omega) (by omega) (iI p) rd a.toNat 1 gx_fu b2 c2 _ (by omega) (by omega) t2 (by simp; omega)
      rw [show (46 : Int32) = iI 46 from rfl, e3, Option.bind_some]
      refine ⟨_, _, _, b3, c3, e4, ?_⟩
      unfold sciT pntE
      rw [if_pos q, eD, ← List.append_assoc E, ← List.append_assoc (E ++ _)]
      exact t3
    by_cases q : 0 < a
    · rw [if_pos (show (0 : Int32) < iI a from by simp (disch := omega) only [iI_lit, iL_lit, iI_add, iI_sub, iI_mul, iI_neg, iL_add, iL_sub, iL_mul, iL_neg, iI_lt, iI_le, iI_eq, iL_lt, iL_le, iL_eqS, iI_c, iI_ok, iI_l, iL_i, iI_low, l_ushrI, l_shlI, l_shrI, i_shlI, i_shrI, i_ushrI, iI_div, iL_div, Int.toNat_natCast, Int.reduceToNat, iI_ofNat]; omega)]
      exact pt (Or.inl q)
    · rw [if_neg (show ¬ (0 : Int32) < iI a from by simp (disch := omega) only [iI_lit, iL_lit, iI_add, iI_sub, iI_mul, iI_neg, iL_add, iL_sub, iL_mul, iL_neg, iI_lt, iI_le, iI_eq, iL_lt, iL_le, iL_eqS, iI_c, iI_ok, iI_l, iL_i, iI_low, l_ushrI, l_shlI, l_shrI, i_shlI, i_shrI, i_ushrI, iI_div, iL_div, Int.toNat_natCast, Int.reduceToNat, iI_ofNat]; omega)]
      by_cases w : sh = 0
      · rw [if_pos w]
        exact noPt (fun x => by rcases x with x | x; exact q x; exact x w)
      · rw [if_neg w]
        exact pt (Or.inr w)
  by_cases q : rn = 0
  · rw [if_pos (show iI (rn : Int) = iI 0 from by rw [q]; rfl)]
    have : (48 : Int32) = iI (48 + dg ε 0) := by rw [dg_0 (hz q)]; rfl
    rw [this]
    exact fin
  · rw [if_neg (show ¬ iI (rn : Int) = iI 0 from by simp (disch := omega) only [iI_lit, iL_lit, iI_add, iI_sub, iI_mul, iI_neg, iL_add, iL_sub, iL_mul, iL_neg, iI_lt, iI_le, iI_eq, iL_lt, iL_le, iL_eqS, iI_c, iI_ok, iI_l, iL_i, iI_low, l_ushrI, l_shlI, l_shrI, i_shlI, i_shrI, i_ushrI, iI_div, iL_div, Int.toNat_natCast, Int.reduceToNat, iI_ofNat]; omega)]
    exact fin
-- XE
set_option maxRecDepth 10000 in
def digG (δ : Nat → Nat) (P : Int) (j d : Nat) : List Int32 := (List.range' j d).map (fun i : Nat => iI (48 + dg δ (P + (i : Int))))
set_option maxRecDepth 10000 in
theorem digG_succ (δ : Nat → Nat) (P : Int) (j d : Nat) : digG δ P j (d + 1) = [iI (48 + dg δ (P + (j : Int)))] ++ digG δ P (j + 1) d := by
  unfold digG; rw [List.range'_succ]; rfl
set_option maxRecDepth 10000 in
theorem digE_G (δ : Nat → Nat) (P : Int) (d : Nat) : digE δ P d = digG δ P 0 d := rfl
set_option maxRecDepth 10000 in
def fixT (δ : Nat → Nat) (P : Int) (g : Prop) [Decidable g] (a : Int) (sh : Prop) [Decidable sh] : List Int32 := wholeE δ P g ++ (pntE a sh ++ digE δ P a.toNat)
set_option maxRecDepth 10000 in
theorem mfx162 {δ : Nat → Nat} {n : Nat} {cd : Nat → Int32} (hC : DL 1300 (iI n) cd n δ) {v6 : Int} (hv6 : v6 = 0 ∨ v6 = 1) (hz : v6 = 1 → ∀ i, δ i = 0) {a cp P : Int} (a0 : 0 ≤ a) (a1 : a ≤ 10010) (h0 : -20000 ≤ cp) (h1 : cp ≤ 20000) (hP : v6 = 0 → P = cp) (an ap : Int32) (ad : Nat → Int32) :
    ∀ (d i m : Nat) (bl : Int32) (bc : Nat → Int32) (E : List Int32), (i : Int) + d = a → d < m → TP bl bc E → E.length + d < 12000 → ∃ bl' bc', f_Md_fixed_162 m (iI a) (iI v6) (iI i) an ap ad (iI n) (iI cp) cd bl bc = some (iI n, iI cp, cd, bl', bc') ∧ TP bl' bc' (E ++ digG δ P i d)
  | 0, i, m + 1, bl, bc, E, hj, hm, h, hE => by
    rw [f_Md_fixed_162, if_pos (show iI a ≤ iI (i : Int) from by simp (disch := omega) only [iI_lit, iL_lit, iI_add, iI_sub, iI_mul, iI_neg, iL_add, iL_sub, iL_mul, iL_neg, iI_lt, iI_le, iI_eq, iL_lt, iL_le, iL_eqS, iI_c, iI_ok, iI_l, iL_i, iI_low, l_ushrI, l_shlI, l_shrI, i_shlI, i_shrI, i_ushrI, iI_div, iL_div, Int.toNat_natCast, Int.reduceToNat, iI_ofNat]; omega)]
    have : digG δ P i 0 = [] := rfl
    rw [this, List.append_nil]
    exact ⟨bl, bc, rfl, h⟩
  | d + 1, i, m + 1, bl, bc, E, hj, hm, h, hE => by
    have hd := dg_b hC.2.2.2.2 (P + (i : Int))
    obtain ⟨b1, c1, e1, t1⟩ := madd_i h (by omega) (a := 48 + dg δ (P + (i : Int))) (by omega) (by omega)
    obtain ⟨b2, c2, e2, t2⟩ := mfx162 hC hv6 hz a0 a1 h0 h1 hP an ap ad d (i + 1) m b1 c1 _ (by omega) (by omega) t1 (by simp; omega)
    have ej : iI (i : Int) + 1 = iI ((i + 1 : Nat) : Int) := by rw [show (1 : Int32) = iI 1 from rfl, iI_add]; rfl
    have fin : ∃ bl' bc', ((f_Md_add (iI (48 + dg δ (P + (i : Int)))) bl bc).bind fun u209 => f_Md_fixed_162 m (iI a) (iI v6) (iI (i : Int) + 1) an ap ad (iI n) (iI cp) cd u209.1 u209.2) = some (iI n, iI cp, cd, bl', bc') ∧ TP bl' bc' (E ++ digG δ P i (d + 1)) := by
      rw [e1, Option.bind_some, ej]
      refine ⟨b2, c2, e2, ?_⟩
      rw [digG_succ, ← List.append_assoc E]
      exact t2
    rw [f_Md_fixed_162, if_neg (show ¬ iI a ≤ iI (i : Int) from by simp (disch := omega) only [iI_lit, iL_lit, iI_add, iI_sub, iI_mul, iI_neg, iL_add, iL_sub, iL_mul, iL_neg, iI_lt, iI_le, iI_eq, iL_lt, iL_le, iL_eqS, iI_c, iI_ok, iI_l, iL_i, iI_low, l_ushrI, l_shlI, l_shrI, i_shlI, i_shrI, i_ushrI, iI_div, iL_div, Int.toNat_natCast, Int.reduceToNat, iI_ofNat]; omega)]
    unfold f_Md_fixed_187 f_Md_fixed_209
    rcases hv6 with rfl | rfl
    · have hPc := hP rfl
      subst hPc
      rw [if_pos (show iI 0 = 0 from rfl), iI_add]
      by_cases q : 0 ≤ P + (i : Int)
      · rw [if_pos (show (0 : Int32) ≤ iI (P + (i : Int)) from by simp (disch := omega) only [iI_lit, iL_lit, iI_add, iI_sub, iI_mul, iI_neg, iL_add, iL_sub, iL_mul, iL_neg, iI_lt, iI_le, iI_eq, iL_lt, iL_le, iL_eqS, iI_c, iI_ok, iI_l, iL_i, iI_low, l_ushrI, l_shlI, l_shrI, i_shlI, i_shrI, i_ushrI, iI_div, iL_div, Int.toNat_natCast, Int.reduceToNat, iI_ofNat]; omega), mdig_spec hC (by omega) (by omega), Option.bind_some]
        exact fin
      · rw [if_neg (show ¬ (0 : Int32) ≤ iI (P + (i : Int)) from by simp (disch := omega) only [iI_lit, iL_lit, iI_add, iI_sub, iI_mul, iI_neg, iL_add, iL_sub, iL_mul, iL_neg, iI_lt, iI_le, iI_eq, iL_lt, iL_le, iL_eqS, iI_c, iI_ok, iI_l, iL_i, iI_low, l_ushrI, l_shlI, l_shrI, i_shlI, i_shrI, i_ushrI, iI_div, iL_div, Int.toNat_natCast, Int.reduceToNat, iI_ofNat]; omega)]
        have : (48 : Int32) = iI (48 + dg δ (P + (i : Int))) := by unfold dg; rw [if_neg q]; rfl
        rw [this]
        exact fin
    · rw [if_neg (show ¬ iI 1 = 0 from by decide), if_neg (show ¬ (0 : Int32) ≤ -1 from by decide)]
      have : (48 : Int32) = iI (48 + dg δ (P + (i : Int))) := by rw [dg_0 (hz rfl)]; rfl
      rw [this]
      exact fin
set_option maxRecDepth 10000 in
theorem mfxEnd {δ : Nat → Nat} {n : Nat} {cd : Nat → Int32} (hC : DL 1300 (iI n) cd n δ) {v6 : Int} (hv6 : v6 = 0 ∨ v6 = 1) (hz : v6 = 1 → ∀ i, δ i = 0) {a cp P : Int} (a0 : 0 ≤ a) (a1 : a ≤ 10010) (h0 : -20000 ≤ cp) (h1 : cp ≤ 20000) (hP : v6 = 0 → P = cp) (an ap sh : Int32) (ad : Nat → Int32) {bl : Int32} {bc : Nat → Int32} {E : List Int32} (h : TP bl bc E) (hE : E.length + 10020 < 12000) :
    ∃ bl' bc', (if 0 < iI a then f_Md_fixed_153 (iI a) (iI v6) an ap ad (iI n) (iI cp) cd bl bc else (if sh = 0 then f_Md_fixed_159 (iI a) (iI v6) an ap ad (iI n) (iI cp) cd bl bc else f_Md_fixed_153 (iI a) (iI v6) an ap ad (iI n) (iI cp) cd bl bc)) = some (iI n, iI cp, cd, bl', bc') ∧ TP bl' bc' (E ++ (pntE a (sh ≠ 0) ++ digE δ P a.toNat)) := by
  have hfu := fu_pos
  unfold f_Md_fixed_153 f_Md_fixed_159
  have noPt : ¬ (0 < a ∨ sh ≠ 0) → ∃ bl' bc', f_Md_fixed_162 gx_fu (iI a) (iI v6) (0 : Int32) an ap ad (iI n) (iI cp) cd bl bc = some (iI n, iI cp, cd, bl', bc') ∧ TP bl' bc' (E ++ (pntE a (sh ≠ 0) ++ digE δ P a.toNat)) := by
    intro q
    obtain ⟨b3, c3, e3, t3⟩ := mfx162 hC hv6 hz a0 a1 h0 h1 hP an ap ad a.toNat 0 gx_fu bl bc _ (by omega) (by omega) h (by omega)
    refine ⟨b3, c3, e3, ?_⟩
    unfold pntE
    rw [if_neg q, List.nil_append, digE_G]
    exact t3
  have pt : (0 < a ∨ sh ≠ 0) → ∃ bl' bc', ((f_Md_add (46 : Int32) bl bc).bind fun u156 => f_Md_fixed_162 gx_fu (iI a) (iI v6) (0 : Int32) an ap ad (iI n) (iI cp) cd u156.1 u156.2) = some (iI n, iI cp, cd, bl', bc') ∧ TP bl' bc' (E ++ (pntE a (sh ≠ 0) ++ digE δ P a.toNat)) := by
    intro q
    obtain ⟨b2, c2, e2, t2⟩ := madd_i h (by omega) (a := 46) (by omega) (by omega)
    obtain ⟨b3, c3, e3, t3⟩ := mfx162 hC hv6 hz a0 a1 h0 h1 hP an ap ad a.toNat 0 gx_fu b2 c2 _ (by omega) (by omega) t2 (by simp; omega)
    rw [show (46 : Int32) = iI 46 from rfl, e2, Option.bind_some]
    refine ⟨b3, c3, e3, ?_⟩
    unfold pntE
    rw [if_pos q, digE_G, ← List.append_assoc E]
    exact t3
  by_cases q : 0 < a
  · rw [if_pos (show (0 : Int32) < iI a from by simp (disch := omega) only [iI_lit, iL_lit, iI_add, iI_sub, iI_mul, iI_neg, iL_add, iL_sub, iL_mul, iL_neg, iI_lt, iI_le, iI_eq, iL_lt, iL_le, iL_eqS, iI_c, iI_ok, iI_l, iL_i, iI_low, l_ushrI, l_shlI, l_shrI, i_shlI, i_shrI, i_ushrI, iI_div, iL_div, Int.toNat_natCast, Int.reduceToNat, iI_ofNat]; omega)]
    exact pt (Or.inl q)
  · rw [if_neg (show ¬ (0 : Int32) < iI a from by simp (disch := omega) only [iI_lit, iL_lit, iI_add, iI_sub, iI_mul, iI_neg, iL_add, iL_sub, iL_mul, iL_neg, iI_lt, iI_le, iI_eq, iL_lt, iL_le, iL_eqS, iI_c, iI_ok, iI_l, iL_i, iI_low, l_ushrI, l_shlI, l_shrI, i_shlI, i_shrI, i_ushrI, iI_div, iL_div, Int.toNat_natCast, Int.reduceToNat, iI_ofNat]; omega)]
    by_cases w : sh = 0
    · rw [if_pos w]
      exact noPt (fun x => by rcases x with x | x; exact q x; exact x w)
    · rw [if_neg w]
      exact pt (Or.inr w)
set_option maxRecDepth 10000 in
def wholeG (δ : Nat → Nat) (P : Int) (g : Prop) [Decidable g] (j d : Nat) : List Int32 := (List.range' j d).flatMap (wholeAt δ P g P)
set_option maxRecDepth 10000 in
theorem wholeG_succ (δ : Nat → Nat) (P : Int) (g : Prop) [Decidable g] (j d : Nat) : wholeG δ P g j (d + 1) = wholeAt δ P g P j ++ wholeG δ P g (j + 1) d := by
  unfold wholeG; rw [List.range'_succ, List.flatMap_cons]
set_option maxRecDepth 10000 in
theorem mfx93 {δ : Nat → Nat} {n : Nat} {cd : Nat → Int32} (hC : DL 1300 (iI n) cd n δ) {a : Int} (a0 : 0 ≤ a) (a1 : a ≤ 10010) {B : Nat} (hB : B ≤ 800) (an ap g sh : Int32) (ad : Nat → Int32) :
    ∀ (d i m : Nat) (bl : Int32) (bc : Nat → Int32) (E : List Int32), i + d = B → d < m → TP bl bc E → E.length + 2 * d + 10020 < 12000 → ∃ bl' bc', f_Md_fixed_93 m (iI a) g sh (iI 0) (iI B) (iI i) an ap ad (iI n) (iI B) cd bl bc = some (iI n, iI B, cd, bl', bc') ∧ TP bl' bc' (E ++ (wholeG δ B (g ≠ 0) i d ++ (pntE a (sh ≠ 0) ++ digE δ B a.toNat)))
  | 0, i, m + 1, bl, bc, E, hi, hm, h, hE => by
    rw [f_Md_fixed_93, if_pos (show iI (B : Int) ≤ iI (i : Int) from by simp (disch := omega) only [iI_lit, iL_lit, iI_add, iI_sub, iI_mul, iI_neg, iL_add, iL_sub, iL_mul, iL_neg, iI_lt, iI_le, iI_eq, iL_lt, iL_le, iL_eqS, iI_c, iI_ok, iI_l, iL_i, iI_low, l_ushrI, l_shlI, l_shrI, i_shlI, i_shrI, i_ushrI, iI_div, iL_div, Int.toNat_natCast, Int.reduceToNat, iI_ofNat]; omega)]
    have : wholeG δ B (g ≠ 0) i 0 = [] := rfl
    rw [this, List.nil_append]
    exact mfxEnd hC (Or.inl rfl) (fun q => by omega) a0 a1 (by omega) (by omega) (fun _ => rfl) an ap sh ad h (by omega)
  | d + 1, i, m + 1, bl, bc, E, hi, hm, h, hE => by
    have hd := dg_b hC.2.2.2.2 (i : Int)
    rw [f_Md_fixed_93, if_neg (show ¬ iI (B : Int) ≤ iI (i : Int) from by simp (disch := omega) only [iI_lit, iL_lit, iI_add, iI_sub, iI_mul, iI_neg, iL_add, iL_sub, iL_mul, iL_neg, iI_lt, iI_le, iI_eq, iL_lt, iL_le, iL_eqS, iI_c, iI_ok, iI_l, iL_i, iI_low, l_ushrI, l_shlI, l_shrI, i_shlI, i_shrI, i_ushrI, iI_div, iL_div, Int.toNat_natCast, Int.reduceToNat, iI_ofNat]; omega)]
    unfold f_Md_fixed_125
    rw [mdig_spec hC (by omega) (by omega)]
    simp only [Option.bind_some]
    have ej : iI (i : Int) + 1 = iI ((i + 1 : Nat) : Int) := by rw [show (1 : Int32) = iI 1 from rfl, iI_add]; rfl
    rw [ej]
    have tail : ∀ (bl : Int32) (bc : Nat → Int32) (E' : List Int32), TP bl bc E' → E'.length + 2 * d + 1 + 10020 < 12000 → ∃ bl' bc', ((f_Md_add (iI (48 + dg δ (i : Int))) bl bc).bind fun u135 => f_Md_fixed_93 m (iI a) g sh (iI 0) (iI B) (iI ((i + 1 : Nat) : Int)) an ap ad (iI n) (iI B) cd u135.1 u135.2) = some (iI n, iI B, cd, bl', bc') ∧ TP bl' bc' (E' ++ ([iI (48 + dg δ (i : Int))] ++ (wholeG δ B (g ≠ 0) (i + 1) d ++ (pntE a (sh ≠ 0) ++ digE δ B a.toNat)))) := by
      intro bl bc E' h' hE'
      obtain ⟨b1, c1, e1, t1⟩ := madd_i h' (by omega) (a := 48 + dg δ (i : Int)) (by omega) (by omega)
      obtain ⟨b2, c2, e2, t2⟩ := mfx93 hC a0 a1 hB an ap g sh ad d (i + 1) m b1 c1 _ (by omega) (by omega) t1 (by simp; omega)
      rw [e1, Option.bind_some]
      refine ⟨b2, c2, e2, ?_⟩
      rw [← List.append_assoc E']
      exact t2
    have eW : dg δ ((i : Int) + (B : Int) - (B : Int)) = dg δ (i : Int) := by rw [show (i : Int) + (B : Int) - (B : Int) = (i : Int) by omega]
    rw [wholeG_succ, wholeAt, eW]
    have plain : ¬ (g ≠ 0 ∧ 0 < i ∧ ((B : Int) - i) % 3 = 0) → ∃ bl' bc', ((f_Md_add (iI (48 + dg δ (i : Int))) bl bc).bind fun u135 => f_Md_fixed_93 m (iI a) g sh (iI 0) (iI B) (iI ((i + 1 : Nat) : Int)) an ap ad (iI n) (iI B) cd u135.1 u135.2) = some (iI n, iI B, cd, bl', bc') ∧ TP bl' bc' (E ++ (((if g ≠ 0 ∧ 0 < i ∧ ((B : Int) - i) % 3 = 0 then [iI 44] else []) ++ [iI (48 + dg δ (i : Int))]) ++ wholeG δ B (g ≠ 0) (i + 1) d ++ (pntE a (sh ≠ 0) ++ digE δ B a.toNat))) := by
      intro q
      rw [if_neg q, List.nil_append, List.append_assoc]
      exact tail bl bc E h (by omega)
    by_cases q1 : g = 0
    · rw [if_pos q1]; exact plain (fun x => x.1 q1)
    · rw [if_neg q1]
      by_cases q2 : i = 0
      · rw [if_pos (show iI (i : Int) ≤ 0 from by simp (disch := omega) only [iI_lit, iL_lit, iI_add, iI_sub, iI_mul, iI_neg, iL_add, iL_sub, iL_mul, iL_neg, iI_lt, iI_le, iI_eq, iL_lt, iL_le, iL_eqS, iI_c, iI_ok, iI_l, iL_i, iI_low, l_ushrI, l_shlI, l_shrI, i_shlI, i_shrI, i_ushrI, iI_div, iL_div, Int.toNat_natCast, Int.reduceToNat, iI_ofNat]; omega)]; exact plain (fun x => by omega)
      · rw [if_neg (show ¬ iI (i : Int) ≤ 0 from by simp (disch := omega) only [iI_lit, iL_lit, iI_add, iI_sub, iI_mul, iI_neg, iL_add, iL_sub, iL_mul, iL_neg, iI_lt, iI_le, iI_eq, iL_lt, iL_le, iL_eqS, iI_c, iI_ok, iI_l, iL_i, iI_low, l_ushrI, l_shlI, l_shrI, i_shlI, i_shrI, i_ushrI, iI_div, iL_div, Int.toNat_natCast, Int.reduceToNat, iI_ofNat]; omega)]
        have em : iI (B : Int) - iI (i : Int) - (iI (B : Int) - iI (i : Int)) / (3 : Int32) * (3 : Int32) = iI (((B : Int) - i) % 3) := by
          rw [show (3 : Int32) = iI 3 from rfl, iI_sub, iI_div (by omega) (by omega) (by omega) (by omega), iI_mul, iI_sub]
          congr 1; omega
        rw [em]
        by_cases q3 : ((B : Int) - i) % 3 = 0
        · rw [if_pos (show iI (((B : Int) - i) % 3) = 0 from by rw [q3]; rfl)]
          obtain ⟨b1, c1, e1, t1⟩ := madd_i h (by omega) (a := 44) (by omega) (by omega)
          rw [show (44 : Int32) = iI 44 from rfl, e1, Option.bind_some]
          obtain ⟨b2, c2, e2, t2⟩ := tail b1 c1 _ t1 (by simp; omega)
          refine ⟨b2, c2, e2, ?_⟩
          rw [if_pos ⟨q1, by omega, q3⟩, List.append_assoc, List.append_assoc, ← List.append_assoc E]
          exact t2
        · rw [if_neg (show ¬ iI (((B : Int) - i) % 3) = 0 from by simp (disch := omega) only [iI_lit, iL_lit, iI_add, iI_sub, iI_mul, iI_neg, iL_add, iL_sub, iL_mul, iL_neg, iI_lt, iI_le, iI_eq, iL_lt, iL_le, iL_eqS, iI_c, iI_ok, iI_l, iL_i, iI_low, l_ushrI, l_shlI, l_shrI, i_shlI, i_shrI, i_ushrI, iI_div, iL_div, Int.toNat_natCast, Int.reduceToNat, iI_ofNat]; omega)]
          exact plain (fun x => q3 x.2.2)
set_option maxRecDepth 10000 in
theorem wholeE_1 {δ : Nat → Nat} {P : Int} (hP : P ≤ 1) (g : Prop) [Decidable g] (h0 : dg δ (P - 1) = 0) : wholeE δ P g = [iI 48] := by
  unfold wholeE
  rw [show max P 1 = 1 by omega]
  show (List.range' 0 1).flatMap (wholeAt δ P g 1) = _
  rw [show List.range' 0 1 = [0] from rfl, List.flatMap_cons, List.flatMap_nil, List.append_nil]
  unfold wholeAt
  rw [if_neg (fun x => absurd x.2.1 (by omega)), List.nil_append]
  rw [show ((0 : Nat) : Int) + P - 1 = P - 1 by omega, h0]
  rfl
set_option maxRecDepth 10000 in
theorem mfix_spec {δ : Nat → Nat} {rn : Nat} {rd : Nat → Int32} (hD : DL 1300 (iI rn) rd rn δ) (hrn : rn < 1300) {a p k : Int} (a0 : 0 ≤ a) (a1 : a ≤ 10010) (h0 : -1200 ≤ p) (h1 : p ≤ 400) (hk : k = if rn = 0 then 0 else p + a) (g sh cn cp : Int32) (cc : Nat → Int32) {bl : Int32} {bc : Nat → Int32} {E : List Int32} (h : TP bl bc E) (hE : E.length ≤ 20) :
    ∃ crn crp crd bl' bc', f_Md_fixed (iI a) g sh (iI rn) (iI p) rd cn cp cc bl bc = some (crn, crp, crd, bl', bc') ∧ TP bl' bc' (E ++ fixT (rndF δ k) (if rn = 0 ∨ k < 0 ∨ (k = 0 ∧ δ 0 < 5) then 1 else p + rndC δ k) (g ≠ 0) a (sh ≠ 0)) := by
  have hfu := fu_pos
  have hkb : -2000000000 ≤ k ∧ k ≤ 2000000000 := by rw [hk]; split <;> omega
  obtain ⟨n', c', e1, hC, hn0⟩ := rnd2_spec hD hrn (k := k) (p := p) hkb.1 hkb.2 cn cp cc
  have hrc := rndC_b δ k
  have e0 : f_Md_fixed (iI a) g sh (iI rn) (iI p) rd cn cp cc bl bc = f_Md_fixed_17 (iI a) g sh (iI k) (iI rn) (iI p) rd cn cp cc bl bc := by
    unfold f_Md_fixed
    by_cases q : rn = 0
    · rw [if_pos (show iI (rn : Int) = 0 from by rw [q]; rfl), hk, if_pos q]; rfl
    · rw [if_neg (show ¬ iI (rn : Int) = 0 from by simp (disch := omega) only [iI_lit, iL_lit, iI_add, iI_sub, iI_mul, iI_neg, iL_add, iL_sub, iL_mul, iL_neg, iI_lt, iI_le, iI_eq, iL_lt, iL_le, iL_eqS, iI_c, iI_ok, iI_l, iL_i, iI_low, l_ushrI, l_shlI, l_shrI, i_shlI, i_shrI, i_ushrI, iI_div, iL_div, Int.toNat_natCast, Int.reduceToNat, iI_ofNat]; omega), hk, if_neg q, iI_add]
  rw [e0]
  unfold f_Md_fixed_17 f_Md_fixed_43
  rw [e1, Option.bind_some]
  dsimp only
  generalize rndF δ k = ε at *
  generalize hcp : p + rndC δ k = P at *
  by_cases q : rn = 0 ∨ k < 0 ∨ (k = 0 ∧ δ 0 < 5)
  · -- nothing is left
    have hn' : n' = 0 := hn0.mpr q
    have hz : ∀ i, ε i = 0 := fun i => hC.2.2.2.1 i (by omega)
    rw [if_pos q]
    have main : ∃ crn crp crd bl' bc', f_Md_fixed_48 (iI a) g sh 1 (iI rn) (iI p) rd (iI n') (iI P) c' bl bc = some (crn, crp, crd, bl', bc') ∧ TP bl' bc' (E ++ fixT ε 1 (g ≠ 0) a (sh ≠ 0)) := by
      unfold f_Md_fixed_48 f_Md_fixed_66 f_Md_fixed_77 f_Md_fixed_90
      rw [if_neg (show ¬ (1 : Int32) = 0 from by decide), if_pos rfl]
      obtain ⟨b1, c1, e2, t1⟩ := madd_i h (by omega) (a := 48) (by omega) (by omega)
      rw [show (48 : Int32) = iI 48 from rfl, e2, Option.bind_some]
      dsimp only
      obtain ⟨m, hm⟩ : ∃ m, gx_fu = m + 1 := ⟨gx_fu - 1, by omega⟩
      rw [hm, f_Md_fixed_93, if_pos (show (0 : Int32) ≤ 0 from by decide)]
      obtain ⟨b2, c2, e3, t2⟩ := mfxEnd hC (v6 := 1) (Or.inr rfl) (fun _ => hz) a0 a1 (cp := P) (P := 1) (by omega) (by omega) (fun w => by omega) (iI rn) (iI p) sh rd t1 (by simp; omega)
      refine ⟨_, _, _, b2, c2, e3, ?_⟩
      unfold fixT
      rw [wholeE_1 (by omega) _ (dg_0 hz _), ← List.append_assoc E]
      exact t2
    by_cases w : rn = 0
    · rw [if_pos (show iI (rn : Int) = 0 from by rw [w]; rfl)]; exact main
    · rw [if_neg (show ¬ iI (rn : Int) = 0 from by simp (disch := omega) only [iI_lit, iL_lit, iI_add, iI_sub, iI_mul, iI_neg, iL_add, iL_sub, iL_mul, iL_neg, iI_lt, iI_le, iI_eq, iL_lt, iL_le, iL_eqS, iI_c, iI_ok, iI_l, iL_i, iI_low, l_ushrI, l_shlI, l_shrI, i_shlI, i_shrI, i_ushrI, iI_div, iL_div, Int.toNat_natCast, Int.reduceToNat, iI_ofNat]; omega), if_pos (show iI (n' : Int) = 0 from by rw [hn']; rfl)]; exact main
  · rw [if_neg q]
    have hn' : n' ≠ 0 := fun w => q (hn0.mp w)
    have hn1 := hC.2.1
    rw [if_neg (show ¬ iI (rn : Int) = 0 from by simp (disch := omega) only [iI_lit, iL_lit, iI_add, iI_sub, iI_mul, iI_neg, iL_add, iL_sub, iL_mul, iL_neg, iI_lt, iI_le, iI_eq, iL_lt, iL_le, iL_eqS, iI_c, iI_ok, iI_l, iL_i, iI_low, l_ushrI, l_shlI, l_shrI, i_shlI, i_shrI, i_ushrI, iI_div, iL_div, Int.toNat_natCast, Int.reduceToNat, iI_ofNat]; omega), if_neg (show ¬ iI (n' : Int) = 0 from by simp (disch := omega) only [iI_lit, iL_lit, iI_add, iI_sub, iI_mul, iI_neg, iL_add, iL_sub, iL_mul, iL_neg, iI_lt, iI_le, iI_eq, iL_lt, iL_le, iL_eqS, iI_c, iI_ok, iI_l, iL_i, iI_low, l_ushrI, l_shlI, l_shrI, i_shlI, i_shrI, i_ushrI, iI_div, iL_div, Int.toNat_natCast, Int.reduceToNat, iI_ofNat]; omega)]
    unfold f_Md_fixed_48 f_Md_fixed_66 f_Md_fixed_77 f_Md_fixed_90
    rw [if_pos rfl]
    by_cases w : 1 ≤ P
    · rw [if_pos (show (1 : Int32) ≤ iI P from by simp (disch := omega) only [iI_lit, iL_lit, iI_add, iI_sub, iI_mul, iI_neg, iL_add, iL_sub, iL_mul, iL_neg, iI_lt, iI_le, iI_eq, iL_lt, iL_le, iL_eqS, iI_c, iI_ok, iI_l, iL_i, iI_low, l_ushrI, l_shlI, l_shrI, i_shlI, i_shrI, i_ushrI, iI_div, iL_div, Int.toNat_natCast, Int.reduceToNat, iI_ofNat]; omega), if_neg (show ¬ iI P = 0 from by simp (disch := omega) only [iI_lit, iL_lit, iI_add, iI_sub, iI_mul, iI_neg, iL_add, iL_sub, iL_mul, iL_neg, iI_lt, iI_le, iI_eq, iL_lt, iL_le, iL_eqS, iI_c, iI_ok, iI_l, iL_i, iI_low, l_ushrI, l_shlI, l_shrI, i_shlI, i_shrI, i_ushrI, iI_div, iL_div, Int.toNat_natCast, Int.reduceToNat, iI_ofNat]; omega)]
      obtain ⟨B, rfl⟩ : ∃ B : Nat, P = (B : Int) := ⟨P.toNat, by omega⟩
      obtain ⟨b2, c2, e3, t2⟩ := mfx93 hC a0 a1 (B := B) (by omega) (iI rn) (iI p) g sh rd B 0 gx_fu bl bc E (by omega) (by omega) h (by omega)
      refine ⟨_, _, _, b2, c2, e3, ?_⟩
      unfold fixT wholeE
      rw [show max (B : Int) 1 = (B : Int) by omega, Int.toNat_natCast]
      exact t2
    · rw [if_neg (show ¬ (1 : Int32) ≤ iI P from by simp (disch := omega) only [iI_lit, iL_lit, iI_add, iI_sub, iI_mul, iI_neg, iL_add, iL_sub, iL_mul, iL_neg, iI_lt, iI_le, iI_eq, iL_lt, iL_le, iL_eqS, iI_c, iI_ok, iI_l, iL_i, iI_low, l_ushrI, l_shlI, l_shrI, i_shlI, i_shrI, i_ushrI, iI_div, iL_div, Int.toNat_natCast, Int.reduceToNat, iI_ofNat]; omega), if_pos rfl]
      obtain ⟨b1, c1, e2, t1⟩ := madd_i h (by omega) (a := 48) (by omega) (by omega)
      rw [show (48 : Int32) = iI 48 from rfl, e2, Option.bind_some]
      dsimp only
      obtain ⟨m, hm⟩ : ∃ m, gx_fu = m + 1 := ⟨gx_fu - 1, by omega⟩
      rw [hm, f_Md_fixed_93, if_pos (show (0 : Int32) ≤ 0 from by decide)]
      obtain ⟨b2, c2, e3, t2⟩ := mfxEnd hC (v6 := 0) (Or.inl rfl) (fun w => by omega) a0 a1 (cp := P) (P := P) (by omega) (by omega) (fun w => rfl) (iI rn) (iI p) sh rd t1 (by simp; omega)
      refine ⟨_, _, _, b2, c2, e3, ?_⟩
      unfold fixT
      rw [wholeE_1 (by omega) _ (by unfold dg; rw [if_neg (by omega)]), ← List.append_assoc E]
      exact t2
-- XF
set_option maxRecDepth 10000 in
theorem has_spec (f fl : Int32) : f_Pr_has f fl = some (if fl &&& f = 0 then 0 else 1) := by
  unfold f_Pr_has; split <;> rfl
set_option maxRecDepth 10000 in
theorem addPoint_spec {n : Nat} (hn : n < 2147483647) {len over : Int32} {c : Nat → Int32} {E : List Int32} (h : BY n len over c E) {a : Int} (a0 : -100000 ≤ a) (a1 : a ≤ 100000) (fl : Int32) :
    ∃ len' over' c', f_Pr_addPoint (iI a) n len fl over c = some (len', over', c') ∧ BY n len' over' c' (E ++ pntE a (fl &&& 2 ≠ 0)) := by
  unfold f_Pr_addPoint f_Pr_addPoint_12 pntE
  rw [has_spec, Option.bind_some]
  obtain ⟨l1, o1, c1, e1, b1⟩ := add_spec hn h (iI 46)
  rw [sb_small (by omega) (by omega)] at b1
  rw [show (46 : Int32) = iI 46 from rfl, e1, Option.bind_some]
  by_cases q : 0 < a
  · rw [if_pos (show (0 : Int32) < iI a from by simp (disch := omega) only [iI_lit, iL_lit, iI_add, iI_sub, iI_mul, iI_neg, iL_add, iL_sub, iL_mul, iL_neg, iI_lt, iI_le, iI_eq, iL_lt, iL_le, iL_eqS, iI_c, iI_ok, iI_l, iL_i, iI_low, l_ushrI, l_shlI, l_shrI, i_shlI, i_shrI, i_ushrI, iI_div, iL_div, Int.toNat_natCast, Int.reduceToNat, iI_ofNat]; omega), if_pos (Or.inl q)]
    exact ⟨l1, o1, c1, rfl, b1⟩
  · rw [if_neg (show ¬ (0 : Int32) < iI a from by simp (disch := omega) only [iI_lit, iL_lit, iI_add, iI_sub, iI_mul, iI_neg, iL_add, iL_sub, iL_mul, iL_neg, iI_lt, iI_le, iI_eq, iL_lt, iL_le, iL_eqS, iI_c, iI_ok, iI_l, iL_i, iI_low, l_ushrI, l_shlI, l_shrI, i_shlI, i_shrI, i_ushrI, iI_div, iL_div, Int.toNat_natCast, Int.reduceToNat, iI_ofNat]; omega)]
    by_cases w : fl &&& 2 = 0
    · rw [if_pos w, if_pos rfl, if_neg (fun x => by rcases x with x | x; exact q x; exact x w), List.append_nil]
      exact ⟨len, over, c, rfl, h⟩
    · rw [if_neg w, if_neg (show ¬ (1 : Int32) = 0 from by decide), if_pos (Or.inr w)]
      exact ⟨l1, o1, c1, rfl, b1⟩
set_option maxRecDepth 10000 in
theorem fsci_spec {n : Nat} (hn : n < 10000000) {sz : Int32} {dc : Nat → Int32} {k : Nat} {δ : Nat → Nat} (hD : DL 792 sz dc k δ) {a P : Int} (a0 : 0 ≤ a) (a1 : a ≤ 10010) (h0 : -800 ≤ P) (h1 : P ≤ 800) (fl : Int32) {len over : Int32} {c : Nat → Int32} {E : List Int32} (h : BY n len over c E) :
    ∃ sz' dc' pt' len' over' c', f_Pr_fillScientific (iI a) n sz dc (iI P) len over fl c = some (sz', dc', pt', len', over', c') ∧ BY n len' over' c' (E ++ sciT (rndF δ (a + 1)) (P + rndC δ (a + 1) - 1) a (fl &&& 2 ≠ 0)) := by
  obtain ⟨sz1, dc1, n1, e1, hD1, _⟩ := ro_spec hD (k := a + 1) (p := P) (by omega) (by omega) (by omega) (by omega)
  have hrc := rndC_b δ (a + 1)
  rw [if_neg (show ¬ (a + 1 < (k : Int) ∧ a + 1 ≤ 0 ∧ ¬ (0 ≤ a + 1 ∧ 5 ≤ δ (a + 1).toNat)) by omega)] at e1
  unfold f_Pr_fillScientific f_Pr_fillScientific_68
  rw [show (1 : Int32) = iI 1 from rfl, iI_add, e1, Option.bind_some]
  dsimp only
  generalize rndF δ (a + 1) = ε at *
  generalize hp : P + rndC δ (a + 1) = P1 at *
  obtain ⟨l1, o1, c1, e2, b1⟩ := ad_spec hD1 (f := 0) (by omega) (by omega) (many := 1) (by omega) (by omega) hn h
  have e2' : f_Dc_addDigits (0 : Int32) (iI 1) n sz1 len over dc1 c = some (l1, o1, c1) := e2
  rw [e2', Option.bind_some]
  dsimp only
  obtain ⟨l2, o2, c2, e3, b2⟩ := addPoint_spec (by omega) b1 (a := a) (by omega) (by omega) fl
  rw [e3, Option.bind_some]
  dsimp only
  obtain ⟨l3, o3, c3, e4, b3⟩ := ad_spec hD1 (f := 1) (by omega) (by omega) (many := a) (by omega) (by omega) hn b2
  rw [e4, Option.bind_some]
  dsimp only
  rw [iI_sub]
  have hdE : digE ε 0 (1 : Int).toNat = [iI (48 + dg ε 0)] := by
    show (List.range' 0 1).map _ = _
    rfl
  have eT : E ++ sciT ε (P1 - 1) a (fl &&& 2 ≠ 0) = E ++ digE ε 0 (1 : Int).toNat ++ pntE a (fl &&& 2 ≠ 0) ++ digE ε 1 a.toNat ++ expE (P1 - 1) := by
    unfold sciT; rw [hdE]; simp
  rw [eT]
  by_cases q : 0 ≤ P1 - 1
  · rw [if_pos (show (0 : Int32) ≤ iI (P1 - 1) from by simp (disch := omega) only [iI_lit, iL_lit, iI_add, iI_sub, iI_mul, iI_neg, iL_add, iL_sub, iL_mul, iL_neg, iI_lt, iI_le, iI_eq, iL_lt, iL_le, iL_eqS, iI_c, iI_ok, iI_l, iL_i, iI_low, l_ushrI, l_shlI, l_shrI, i_shlI, i_shrI, i_ushrI, iI_div, iL_div, Int.toNat_natCast, Int.reduceToNat, iI_ofNat]; omega)]
    obtain ⟨l4, o4, c4, e5, b4⟩ := astr_spec (o := 23) (by omega) (by decide) b3
    rw [e5, Option.bind_some, abs_spec (by omega) (by omega), Option.bind_some]
    obtain ⟨l5, o5, c5, e6, b5⟩ := an_spec (v := P1 - 1) (w := 2) (by omega) (by omega) (by omega) (by omega) (by omega) b4
    have : (((P1 - 1).natAbs : Nat) : Int) = P1 - 1 := by omega
    rw [this]
    rw [show f_By_addNumber (iI (P1 - 1)) (2 : Int32) n l4 o4 c4 = some (l5, o5, c5) from e6, Option.bind_some]
    refine ⟨_, _, _, l5, o5, c5, rfl, ?_⟩
    have : E ++ digE ε 0 (1 : Int).toNat ++ pntE a (fl &&& 2 ≠ 0) ++ digE ε 1 a.toNat ++ expE (P1 - 1) = E ++ digE ε 0 (1 : Int).toNat ++ pntE a (fl &&& 2 ≠ 0) ++ digE ε 1 a.toNat ++ gl_byt.getD 23 [] ++ numE (P1 - 1) 2 := by
      unfold expE; rw [if_pos q, if_pos q, List.append_assoc _ (gl_byt.getD 23 [])]; rfl
    rw [this]; exact b5
  · rw [if_neg (show ¬ (0 : Int32) ≤ iI (P1 - 1) from by simp (disch := omega) only [iI_lit, iL_lit, iI_add, iI_sub, iI_mul, iI_neg, iL_add, iL_sub, iL_mul, iL_neg, iI_lt, iI_le, iI_eq, iL_lt, iL_le, iL_eqS, iI_c, iI_ok, iI_l, iL_i, iI_low, l_ushrI, l_shlI, l_shrI, i_shlI, i_shrI, i_ushrI, iI_div, iL_div, Int.toNat_natCast, Int.reduceToNat, iI_ofNat]; omega)]
    obtain ⟨l4, o4, c4, e5, b4⟩ := astr_spec (o := 22) (by omega) (by decide) b3
    rw [e5, Option.bind_some, abs_spec (by omega) (by omega), Option.bind_some]
    obtain ⟨l5, o5, c5, e6, b5⟩ := an_spec (v := -(P1 - 1)) (w := 2) (by omega) (by omega) (by omega) (by omega) (by omega) b4
    have : (((P1 - 1).natAbs : Nat) : Int) = -(P1 - 1) := by omega
    rw [this]
    rw [show f_By_addNumber (iI (-(P1 - 1))) (2 : Int32) n l4 o4 c4 = some (l5, o5, c5) from e6, Option.bind_some]
    refine ⟨_, _, _, l5, o5, c5, rfl, ?_⟩
    have : E ++ digE ε 0 (1 : Int).toNat ++ pntE a (fl &&& 2 ≠ 0) ++ digE ε 1 a.toNat ++ expE (P1 - 1) = E ++ digE ε 0 (1 : Int).toNat ++ pntE a (fl &&& 2 ≠ 0) ++ digE ε 1 a.toNat ++ gl_byt.getD 22 [] ++ numE (-(P1 - 1)) 2 := by
      unfold expE; rw [if_neg q, if_neg q, List.append_assoc _ (gl_byt.getD 22 [])]; rfl
    rw [this]; exact b5
set_option maxRecDepth 10000 in
def fixP (δ : Nat → Nat) (n : Nat) (P k : Int) : Int := if k < n ∧ k ≤ 0 ∧ ¬ (0 ≤ k ∧ 5 ≤ δ k.toNat) then 1 else P + rndC δ k
set_option maxRecDepth 10000 in
theorem ffix_spec {n : Nat} (hn : n < 10000000) {sz : Int32} {dc : Nat → Int32} {k : Nat} {δ : Nat → Nat} (hD : DL 792 sz dc k δ) {a P : Int} (a0 : 0 ≤ a) (a1 : a ≤ 10010) (h0 : -800 ≤ P) (h1 : P ≤ 800) (fl : Int32) {len over : Int32} {c : Nat → Int32} {E : List Int32} (h : BY n len over c E) :
    ∃ sz' dc' pt' len' over' c', f_Pr_fillFixed (iI a) n (iI P) sz dc fl len over c = some (pt', sz', dc', len', over', c') ∧ BY n len' over' c' (E ++ fixT (rndF δ (P + a)) (fixP δ k P (P + a)) (fl &&& 32 ≠ 0) a (fl &&& 2 ≠ 0)) := by
  obtain ⟨sz1, dc1, n1, e1, hD1, _⟩ := ro_spec hD (k := P + a) (p := P) (by omega) (by omega) (by omega) (by omega)
  have hrc := rndC_b δ (P + a)
  have e1' : f_Dc_roundTo (iI (P + a)) sz dc (iI P) = some (sz1, dc1, iI (fixP δ k P (P + a))) := e1
  have hfp : -800 ≤ fixP δ k P (P + a) ∧ fixP δ k P (P + a) ≤ 801 := by unfold fixP; split <;> omega
  unfold f_Pr_fillFixed
  rw [iI_add, e1', Option.bind_some, has_spec, Option.bind_some]
  dsimp only
  generalize rndF δ (P + a) = ε at *
  generalize fixP δ k P (P + a) = P1 at *
  obtain ⟨l1, o1, c1, e2, b1⟩ := aw_spec hD1 (p := P1) (by omega) (by omega) (if fl &&& 32 = 0 then 0 else 1) (by omega) h
  rw [e2, Option.bind_some]
  dsimp only
  obtain ⟨l2, o2, c2, e3, b2⟩ := addPoint_spec (by omega) b1 (a := a) (by omega) (by omega) fl
  rw [e3, Option.bind_some]
  dsimp only
  obtain ⟨l3, o3, c3, e4, b3⟩ := ad_spec hD1 (f := P1) (by omega) (by omega) (many := a) (by omega) (by omega) hn b2
  rw [e4, Option.bind_some]
  refine ⟨_, _, _, l3, o3, c3, rfl, ?_⟩
  have hg : wholeE ε P1 ((if fl &&& 32 = 0 then (0 : Int32) else 1) ≠ 0) = wholeE ε P1 (fl &&& 32 ≠ 0) := by
    by_cases w : fl &&& 32 = 0
    · have : ((if fl &&& 32 = 0 then (0 : Int32) else 1) ≠ 0) = (fl &&& 32 ≠ 0) := by rw [if_pos w, w]
      simp only [this]
    · have : ((if fl &&& 32 = 0 then (0 : Int32) else 1) ≠ 0) = (fl &&& 32 ≠ 0) := by rw [if_neg w]; exact propext ⟨fun _ => w, fun _ => by decide⟩
      simp only [this]
  unfold fixT
  rw [hg] at b3
  rw [List.append_assoc, List.append_assoc] at b3
  exact b3
-- XG
set_option maxRecDepth 10000 in
theorem rndF_out {δ : Nat → Nat} {d : Nat} (hd : 1 ≤ d) {i : Nat} (hi : d ≤ i) : rndF δ (d : Int) i = 0 := by
  unfold rndF
  rw [if_neg (by omega), Int.toNat_natCast]
  split
  · unfold incF
    cases h : last9 δ d with
    | none => show one1 i = 0; unfold one1; rw [if_neg (by omega)]
    | some j =>
      have := (last9_lt h).1
      show (if i < j then δ i else if i = j then δ j + 1 else 0) = 0
      rw [if_neg (by omega), if_neg (by omega)]
  · unfold tr; rw [if_neg (by omega)]
set_option maxRecDepth 10000 in
theorem rnd_idem {ε : Nat → Nat} {d : Nat} (h : ∀ i, d ≤ i → ε i = 0) : rndF ε (d : Int) = ε ∧ rndC ε (d : Int) = 0 := by
  have h0 := h d (Nat.le_refl _)
  constructor
  · unfold rndF
    rw [if_neg (by omega), Int.toNat_natCast, h0, if_neg (by omega)]
    funext i
    unfold tr
    by_cases w : i < d
    · rw [if_pos w]
    · rw [if_neg w, h i (by omega)]
  · unfold rndC; rw [if_neg (by omega), Int.toNat_natCast, h0, if_neg (by omega)]
set_option maxRecDepth 10000 in
theorem rnd_carry {δ : Nat → Nat} {d : Nat} (hd : 1 ≤ d) (h : rndC δ (d : Int) = 1) : rndF δ (d : Int) = one1 ∧ rndF δ ((d - 1 : Nat) : Int) = one1 ∧ rndC δ ((d - 1 : Nat) : Int) = 1 ∧ δ 0 = 9 := by
  unfold rndC at h
  rw [if_neg (by omega), Int.toNat_natCast] at h
  by_cases w : 5 ≤ δ d
  · rw [if_pos w] at h
    unfold incC at h
    cases hl : last9 δ d with
    | some j => rw [hl] at h; exact absurd (show (0 : Int) = 1 from h) (by decide)
    | none =>
      have h9 := last9_none hl
      have hl2 : last9 δ (d - 1) = none := by
        cases hx : last9 δ (d - 1) with
        | none => rfl
        | some j =>
          have hj := last9_lt hx
          exact absurd (h9 j (by omega)) hj.2.1
      have h91 := h9 (d - 1) (by omega)
      refine ⟨?_, ?_, ?_, h9 0 (by omega)⟩
      · unfold rndF; rw [if_neg (by omega), Int.toNat_natCast, if_pos w]; unfold incF; rw [hl]
      · unfold rndF; rw [if_neg (by omega), Int.toNat_natCast, if_pos (by omega)]; unfold incF; rw [hl2]
      · unfold rndC; rw [if_neg (by omega), Int.toNat_natCast, if_pos (by omega)]; unfold incC; rw [hl2]
  · rw [if_neg w] at h; exact absurd h (by decide)
set_option maxRecDepth 10000 in
theorem rndC_01 (δ : Nat → Nat) (k : Int) : rndC δ k = 0 ∨ rndC δ k = 1 := by have := rndC_b δ k; omega
set_option maxRecDepth 10000 in
theorem rndC_0 {δ : Nat → Nat} (h : ∀ i, δ i = 0) (k : Int) : rndC δ k = 0 := by
  unfold rndC
  split
  · rfl
  · rw [h, if_neg (by omega)]
set_option maxRecDepth 10000 in
def dgV (v q : Int) : Nat → Nat := digF (mant v q)
set_option maxRecDepth 10000 in
def ptV (v q : Int) : Int := if v = 0 then 1 else (nd (mant v q) : Int) + min q 0
set_option maxRecDepth 10000 in
theorem dgV_0 {v q : Int} (h : v = 0) (i : Nat) : dgV v q i = 0 := by
  unfold dgV mant
  rw [h, Int.zero_mul]
  exact digF_out (by rw [show (0 : Int).toNat = 0 from rfl, nd_zero]; omega)
set_option maxRecDepth 10000 in
def sciX (v q a : Int) (sh : Prop) [Decidable sh] : List Int32 := sciT (rndF (dgV v q) (a + 1)) (ptV v q + rndC (dgV v q) (a + 1) - 1) a sh
set_option maxRecDepth 10000 in
def fixX (v q a : Int) (g sh : Prop) [Decidable g] [Decidable sh] : List Int32 := fixT (rndF (dgV v q) (ptV v q + a)) (if v = 0 ∨ ptV v q + a < 0 ∨ (ptV v q + a = 0 ∧ dgV v q 0 < 5) then 1 else ptV v q + rndC (dgV v q) (ptV v q + a)) g a sh
set_option maxRecDepth 10000 in
def genX (v q a : Int) (g sh : Prop) [Decidable g] [Decidable sh] : List Int32 :=
  if ptV v q + rndC (dgV v q) (max a 1) < -3 ∨ max a 1 < ptV v q + rndC (dgV v q) (max a 1) then sciT (rndF (dgV v q) (max a 1)) (ptV v q + rndC (dgV v q) (max a 1) - 1) (max a 1 - 1) sh
  else fixT (rndF (dgV v q) (max a 1)) (ptV v q + rndC (dgV v q) (max a 1)) g (max a 1 - (ptV v q + rndC (dgV v q) (max a 1))) sh
set_option maxRecDepth 10000 in
def decX (le v q a : Int) (g sh : Prop) [Decidable g] [Decidable sh] : List Int32 := if le = 101 then sciX v q a sh else if le = 103 then genX v q a g sh else fixX v q a g sh
set_option maxRecDepth 10000 in
theorem ptV_b {v q : Int} (h0 : 0 ≤ v) (h1 : v < 72057594037927936) (hq0 : -1074 ≤ q) (hq1 : q ≤ 971) : -600 ≤ ptV v q ∧ ptV v q ≤ 400 := by
  unfold ptV
  by_cases hv : v = 0
  · rw [if_pos hv]; omega
  · rw [if_neg hv]
    have b := pt_b (C := v) (Q := q) (by omega) h1 (by omega) (by omega)
    have e : mant v q = (mantI v q).toNat := rfl
    rw [e]
    refine ⟨b.1, ?_⟩
    have hm := (mant_b (C := v) (Q := q) (by omega) h1 (by omega) (by omega)).1
    have h9 : mantI v q * 10 ^ (min q 0 + 1100).toNat < 10 ^ 1500 := by
      have e1 : mantI v q * 10 ^ (min q 0 + 1100).toNat ≤ 72057594037927936 * 2 ^ 971 * 10 ^ 1100 := by
        unfold mantI
        by_cases w : 0 ≤ q
        · rw [if_pos w, show (min q 0 + 1100).toNat = 1100 by omega]
          have := Int.mul_le_mul (show v ≤ 72057594037927936 by omega) (p2_mono (show q.toNat ≤ 971 by omega)) (Int.le_of_lt (p2_pos _)) (by omega)
          exact Int.mul_le_mul_of_nonneg_right this (Int.le_of_lt (p10_pos _))
        · rw [if_neg w, show (min q 0 + 1100).toNat = (q + 1100).toNat by omega]
          have f5 : (5 : Int) ^ (-q).toNat * 10 ^ (q + 1100).toNat ≤ 10 ^ 1100 := by
            have a1 : (5 : Int) ^ (-q).toNat ≤ 10 ^ (-q).toNat := by
              rw [p10_25]
              have := Int.mul_le_mul_of_nonneg_right (show (1 : Int) ≤ 2 ^ (-q).toNat from p2_pos _) (show (0 : Int) ≤ 5 ^ (-q).toNat from Int.le_of_lt (p5_pos _))
              rwa [Int.one_mul] at this
            have a2 := Int.mul_le_mul_of_nonneg_right a1 (show (0 : Int) ≤ 10 ^ (q + 1100).toNat from Int.le_of_lt (p10_pos _))
            rw [← Int.pow_add, show (-q).toNat + (q + 1100).toNat = 1100 by omega] at a2
            exact a2
          have a3 := Int.mul_le_mul (show v ≤ 72057594037927936 by omega) f5 (Int.mul_nonneg (Int.le_of_lt (p5_pos _)) (Int.le_of_lt (p10_pos _))) (by omega)
          have a4 : (72057594037927936 : Int) * 10 ^ 1100 ≤ 72057594037927936 * 2 ^ 971 * 10 ^ 1100 := by decide +kernel
          rw [Int.mul_assoc]
          exact Int.le_trans a3 a4
      have e2 : (72057594037927936 : Int) * 2 ^ 971 * 10 ^ 1100 < 10 ^ 1500 := by decide +kernel
      exact Int.lt_of_le_of_lt e1 e2
    have hN0 : 0 < (mantI v q).toNat := by omega
    have hl := nd_le hN0
    have hl' : ((10 ^ (nd (mantI v q).toNat - 1) : Nat) : Int) ≤ mantI v q := by
      have : ((10 ^ (nd (mantI v q).toNat - 1) : Nat) : Int) ≤ ((mantI v q).toNat : Int) := Int.ofNat_le.mpr hl
      rwa [Int.toNat_of_nonneg (by omega)] at this
    rw [Int.natCast_pow] at hl'
    have hm2 := Int.mul_le_mul_of_nonneg_right hl' (show (0 : Int) ≤ 10 ^ (min q 0 + 1100).toNat from Int.le_of_lt (p10_pos _))
    have hlt : (10 : Int) ^ (nd (mantI v q).toNat - 1) * 10 ^ (min q 0 + 1100).toNat < 10 ^ 1500 := Int.lt_of_le_of_lt hm2 h9
    rw [← Int.pow_add] at hlt
    apply Int.not_lt.mp
    intro w
    have := p10I_mono (show 1500 ≤ nd (mantI v q).toNat - 1 + (min q 0 + 1100).toNat by have := nd_pos hN0; omega)
    exact absurd (Int.lt_of_lt_of_le hlt this) (Int.lt_irrefl _)
set_option maxRecDepth 10000 in
theorem te2_spec {v q : Int} (h0 : 0 ≤ v) (h1 : v < 72057594037927936) (hq0 : -1074 ≤ q) (hq1 : q ≤ 971) (ns sz pt : Int32) (nl ch c : Nat → Int32) :
    ∃ (ns' : Int32) (nl' ch' : Nat → Int32) (sz' : Int32) (c' : Nat → Int32) (n : Nat), f_Dc_takeExact (iL v) (iI q) ns nl ch sz pt c = some (ns', nl', ch', sz', iI (ptV v q), c') ∧ DL 792 sz' c' n (dgV v q) ∧ (n = 0 ↔ v = 0) := by
  have hb : v * (if 0 ≤ q then 2 ^ q.toNat else 5 ^ (-q).toNat) < 2 ^ 2600 := by
    by_cases hv : v = 0
    · rw [hv, Int.zero_mul]; exact p2_pos _
    · exact (mant_b (C := v) (Q := q) (by omega) h1 (by omega) (by omega)).2
  obtain ⟨ns', nl', ch', sz', c', e, g⟩ := te_spec h0 (by omega) hq0 hq1 hb ns sz pt nl ch c
  by_cases hv : v = 0
  · rw [if_pos hv] at g
    refine ⟨ns', nl', ch', sz', c', 0, e, ?_, ⟨fun _ => hv, fun _ => rfl⟩⟩
    have : dgV v q = fun _ => 0 := funext (fun i => dgV_0 hv i)
    rw [this]; exact g
  · rw [if_neg hv] at g
    obtain ⟨M, k, hM, hM0, hD⟩ := g
    refine ⟨ns', nl', ch', sz', c', nd M, e, ?_, ⟨fun w => by have := nd_pos hM0; omega, fun w => absurd w hv⟩⟩
    have : dgV v q = digF M := by unfold dgV; rw [hM]; exact funext (fun i => digF_mul10 k i)
    rw [this]; exact hD
set_option maxRecDepth 10000 in
theorem fdec_spec {n : Nat} (hn : n < 10000000) {v q : Int} (h0 : 0 ≤ v) (h1 : v < 72057594037927936) (hq0 : -1074 ≤ q) (hq1 : q ≤ 971) {pr a : Int} (hpr : -1 ≤ pr) (hpr1 : pr ≤ 9999) (ha : a = if pr = -1 then 6 else pr) {le : Int} (hle : le = 101 ∨ le = 102 ∨ le = 103) (fl : Int32) (ns sz pt : Int32) (nl ch dc : Nat → Int32) {len over : Int32} {c : Nat → Int32} {E : List Int32} (h : BY n len over c E) :
    ∃ u1 u2 u3 u4 u5 u6 len' over' c', f_Pr_fillDecimal n (iI pr) (iI le) (iL v) (iI q) ns nl ch sz pt dc fl len over c = some (u1, u2, u3, u4, u5, u6, len', over', c') ∧ BY n len' over' c' (E ++ decX le v q a (fl &&& 32 ≠ 0) (fl &&& 2 ≠ 0)) := by
  obtain ⟨p0, p1⟩ := ptV_b h0 h1 hq0 hq1
  obtain ⟨ns', nl', ch', sz', c1, k, e1, hD, hk0⟩ := te2_spec h0 h1 hq0 hq1 ns sz pt nl ch dc
  have a0 : 0 ≤ a ∧ a ≤ 9999 := by rw [ha]; split <;> omega
  have e0 : f_Pr_fillDecimal n (iI pr) (iI le) (iL v) (iI q) ns nl ch sz pt dc fl len over c = f_Pr_fillDecimal_32 (iI a) (if le = 101 then 1 else 0) n (iI pr) (iI le) (iL v) (iI q) ns nl ch sz pt dc fl len over c := by
    unfold f_Pr_fillDecimal f_Pr_fillDecimal_17
    have hl : (iI le = (101 : Int32)) = (le = 101) := by
      rw [show (101 : Int32) = iI 101 from rfl, iI_eq (by omega) (by omega) (by omega) (by omega)]
    simp only [hl]
    by_cases w : pr = -1
    · rw [if_pos (show iI pr = -1 from by rw [w]; rfl), ha, if_pos w]
      split <;> rfl
    · rw [if_neg (show ¬ iI pr = -1 from by simp (disch := omega) only [iI_lit, iL_lit, iI_add, iI_sub, iI_mul, iI_neg, iL_add, iL_sub, iL_mul, iL_neg, iI_lt, iI_le, iI_eq, iL_lt, iL_le, iL_eqS, iI_c, iI_ok, iI_l, iL_i, iI_low, l_ushrI, l_shlI, l_shrI, i_shlI, i_shrI, i_ushrI, iI_div, iL_div, Int.toNat_natCast, Int.reduceToNat, iI_ofNat]; omega), ha, if_neg w]
      split <;> rfl
  rw [e0]
  unfold f_Pr_fillDecimal_32
  rw [e1, Option.bind_some]
  dsimp only
  unfold decX
  rcases hle with rfl | rfl | rfl
  · rw [if_neg (show ¬ iI 101 = 103 from by decide), if_pos rfl, if_pos rfl]
    unfold f_Pr_fillDecimal_126
    rw [if_neg (show ¬ (1 : Int32) = 0 from by decide)]
    obtain ⟨s2, d2, p2, l2, o2, c2, e2, b2⟩ := fsci_spec hn hD (P := ptV v q) a0.1 (by omega) (by omega) (by omega) fl h
    rw [e2, Option.bind_some]
    exact ⟨_, _, _, _, _, _, l2, o2, c2, rfl, b2⟩
  · rw [if_neg (show ¬ iI 102 = 103 from by decide), if_neg (by decide), if_neg (by decide), if_neg (by decide)]
    unfold f_Pr_fillDecimal_126
    rw [if_pos rfl]
    obtain ⟨s2, d2, p2, l2, o2, c2, e2, b2⟩ := ffix_spec hn hD (P := ptV v q) a0.1 (by omega) (by omega) (by omega) fl h
    rw [e2, Option.bind_some]
    refine ⟨_, _, _, _, _, _, l2, o2, c2, rfl, ?_⟩
    have eP : fixP (dgV v q) k (ptV v q) (ptV v q + a) = (if v = 0 ∨ ptV v q + a < 0 ∨ (ptV v q + a = 0 ∧ dgV v q 0 < 5) then 1 else ptV v q + rndC (dgV v q) (ptV v q + a)) := by
      unfold fixP
      by_cases hv : v = 0
      · rw [if_pos (Or.inl hv)]
        have hP : ptV v q = 1 := if_pos hv
        rw [if_neg (by omega), rndC_0 (fun i => dgV_0 hv i), hP]; rfl
      · have hkp : 0 < k := by have := hk0; omega
        by_cases w : ptV v q + a < 0 ∨ (ptV v q + a = 0 ∧ dgV v q 0 < 5)
        · have L : ptV v q + a < (k : Int) ∧ ptV v q + a ≤ 0 ∧ ¬ (0 ≤ ptV v q + a ∧ 5 ≤ dgV v q (ptV v q + a).toNat) := by
            refine ⟨by omega, by omega, fun x => ?_⟩
            rcases w with w | w
            · omega
            · have := x.2
              rw [w.1] at this
              have t0 : (0 : Int).toNat = 0 := rfl
              rw [t0] at this
              omega
          rw [if_pos L, if_pos (Or.inr w)]
        · have L : ¬ (ptV v q + a < (k : Int) ∧ ptV v q + a ≤ 0 ∧ ¬ (0 ≤ ptV v q + a ∧ 5 ≤ dgV v q (ptV v q + a).toNat)) := by
            intro x
            apply w
            by_cases y : ptV v q + a < 0
            · exact Or.inl y
            · have y0 : ptV v q + a = 0 := by omega
              refine Or.inr ⟨y0, ?_⟩
              apply Nat.not_le.mp
              intro z
              apply x.2.2
              rw [y0]
              exact ⟨by omega, z⟩
          rw [if_neg L, if_neg (fun x => by rcases x with x | x; exact hv x; exact w x)]
    unfold fixX
    rw [← eP]
    exact b2
  · rw [if_pos (show iI 103 = 103 from rfl), if_neg (by decide), if_pos rfl]
    rw [show (1 : Int32) = iI 1 from rfl, max_spec (by omega) (by omega) (by omega) (by omega), Option.bind_some]
    obtain ⟨d, hd⟩ : ∃ d : Nat, max a 1 = (d : Int) := ⟨(max a 1).toNat, by omega⟩
    have hd1 : 1 ≤ d := by omega
    obtain ⟨sz1, dc1, n1, e2, hD1, hn1⟩ := ro_spec hD (k := max a 1) (p := ptV v q) (by omega) (by omega) (by omega) (by omega)
    rw [if_neg (show ¬ (max a 1 < (k : Int) ∧ max a 1 ≤ 0 ∧ ¬ (0 ≤ max a 1 ∧ 5 ≤ dgV v q (max a 1).toNat)) by omega)] at e2
    rw [e2, Option.bind_some]
    dsimp only
    have hrc := rndC_b (dgV v q) (max a 1)
    have hout : ∀ i, d ≤ i → rndF (dgV v q) (max a 1) i = 0 := fun i hi => by rw [hd]; exact rndF_out hd1 hi
    unfold genX
    generalize rndF (dgV v q) (max a 1) = ε at *
    generalize hP1 : ptV v q + rndC (dgV v q) (max a 1) = P1 at *
    obtain ⟨i1, i2⟩ := rnd_idem hout
    unfold f_Pr_fillDecimal_100 f_Pr_fillDecimal_105 f_Pr_fillDecimal_125 f_Pr_fillDecimal_126
    have sci : ∃ u1 u2 u3 u4 u5 u6 len' over' c', ((f_Pr_fillScientific (iI (max a 1) - iI 1) n sz1 dc1 (iI P1) len over fl c).bind fun u132 => some (ns', nl', ch', u132.1, u132.2.2.1, u132.2.1, u132.2.2.2.1, u132.2.2.2.2.1, u132.2.2.2.2.2)) = some (u1, u2, u3, u4, u5, u6, len', over', c') ∧ BY n len' over' c' (E ++ sciT ε (P1 - 1) (max a 1 - 1) (fl &&& 2 ≠ 0)) := by
      obtain ⟨s2, d2, p2, l2, o2, c2, e3, b2⟩ := fsci_spec hn hD1 (P := P1) (a := max a 1 - 1) (by omega) (by omega) (by omega) (by omega) fl h
      rw [iI_sub, e3, Option.bind_some]
      refine ⟨_, _, _, _, _, _, l2, o2, c2, rfl, ?_⟩
      rw [show max a 1 - 1 + 1 = (d : Int) by omega, i1, i2, Int.add_zero] at b2
      exact b2
    have fix : ¬ (P1 < -3 ∨ max a 1 < P1) → ∃ u1 u2 u3 u4 u5 u6 len' over' c', ((f_Pr_fillFixed (iI (max a 1) - iI P1) n (iI P1) sz1 dc1 fl len over c).bind fun u140 => some (ns', nl', ch', u140.2.1, u140.1, u140.2.2.1, u140.2.2.2.1, u140.2.2.2.2.1, u140.2.2.2.2.2)) = some (u1, u2, u3, u4, u5, u6, len', over', c') ∧ BY n len' over' c' (E ++ fixT ε P1 (fl &&& 32 ≠ 0) (max a 1 - P1) (fl &&& 2 ≠ 0)) := by
      intro w
      obtain ⟨s2, d2, p2, l2, o2, c2, e3, b2⟩ := ffix_spec hn hD1 (P := P1) (a := max a 1 - P1) (by omega) (by omega) (by omega) (by omega) fl h
      rw [iI_sub, e3, Option.bind_some]
      refine ⟨_, _, _, _, _, _, l2, o2, c2, rfl, ?_⟩
      have ef : fixP ε n1 P1 (P1 + (max a 1 - P1)) = P1 := by
        unfold fixP
        rw [show P1 + (max a 1 - P1) = (d : Int) by omega, if_neg (by omega), i2, Int.add_zero]
      rw [ef, show P1 + (max a 1 - P1) = (d : Int) by omega, i1] at b2
      exact b2
    by_cases w1 : P1 < -3
    · rw [if_pos (show iI P1 < -3 from by simp (disch := omega) only [iI_lit, iL_lit, iI_add, iI_sub, iI_mul, iI_neg, iL_add, iL_sub, iL_mul, iL_neg, iI_lt, iI_le, iI_eq, iL_lt, iL_le, iL_eqS, iI_c, iI_ok, iI_l, iL_i, iI_low, l_ushrI, l_shlI, l_shrI, i_shlI, i_shrI, i_ushrI, iI_div, iL_div, Int.toNat_natCast, Int.reduceToNat, iI_ofNat]; omega), if_pos (Or.inl w1), if_neg (show ¬ (1 : Int32) = 0 from by decide), if_neg (show ¬ (1 : Int32) = 0 from by decide)]
      exact sci
    · rw [if_neg (show ¬ iI P1 < -3 from by simp (disch := omega) only [iI_lit, iL_lit, iI_add, iI_sub, iI_mul, iI_neg, iL_add, iL_sub, iL_mul, iL_neg, iI_lt, iI_le, iI_eq, iL_lt, iL_le, iL_eqS, iI_c, iI_ok, iI_l, iL_i, iI_low, l_ushrI, l_shlI, l_shrI, i_shlI, i_shrI, i_ushrI, iI_div, iL_div, Int.toNat_natCast, Int.reduceToNat, iI_ofNat]; omega)]
      by_cases w2 : P1 ≤ max a 1
      · rw [if_pos (show iI P1 ≤ iI (max a 1) from by simp (disch := omega) only [iI_lit, iL_lit, iI_add, iI_sub, iI_mul, iI_neg, iL_add, iL_sub, iL_mul, iL_neg, iI_lt, iI_le, iI_eq, iL_lt, iL_le, iL_eqS, iI_c, iI_ok, iI_l, iL_i, iI_low, l_ushrI, l_shlI, l_shrI, i_shlI, i_shrI, i_ushrI, iI_div, iL_div, Int.toNat_natCast, Int.reduceToNat, iI_ofNat]; omega), if_neg (show ¬ (P1 < -3 ∨ max a 1 < P1) by omega), if_pos rfl, if_pos rfl]
        exact fix (by omega)
      · rw [if_neg (show ¬ iI P1 ≤ iI (max a 1) from by simp (disch := omega) only [iI_lit, iL_lit, iI_add, iI_sub, iI_mul, iI_neg, iL_add, iL_sub, iL_mul, iL_neg, iI_lt, iI_le, iI_eq, iL_lt, iL_le, iL_eqS, iI_c, iI_ok, iI_l, iL_i, iI_low, l_ushrI, l_shlI, l_shrI, i_shlI, i_shrI, i_ushrI, iI_div, iL_div, Int.toNat_natCast, Int.reduceToNat, iI_ofNat]; omega), if_pos (Or.inr (by omega)), if_neg (show ¬ (1 : Int32) = 0 from by decide), if_neg (show ¬ (1 : Int32) = 0 from by decide)]
        exact sci
