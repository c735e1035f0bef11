-- UJ
set_option maxRecDepth 10000 in
def CVA (cv : Int) : Prop := cv = 100 ∨ cv = 111 ∨ cv = 120 ∨ cv = 88 ∨ cv = 101 ∨ cv = 69 ∨ cv = 102 ∨ cv = 103 ∨ cv = 71 ∨ cv = 97 ∨ cv = 65 ∨ cv = 99 ∨ cv = 67 ∨ cv = 115 ∨ cv = 83 ∨ cv = 98 ∨ cv = 66
set_option maxRecDepth 10000 in
theorem CVA_b {cv : Int} (h : CVA cv) : 0 ≤ cv ∧ cv < 128 := by unfold CVA at h; omega
set_option maxRecDepth 10000 in
theorem inW_cv : ∀ c : Fin 128, (inW 63 c.val ↔ (c.val = 115 ∨ c.val = 83 ∨ c.val = 98 ∨ c.val = 66)) ∧ (inW 64 c.val ↔ (c.val = 99 ∨ c.val = 67)) ∧ (inW 53 c.val ↔ (c.val = 111 ∨ c.val = 120 ∨ c.val = 88)) ∧ (inW 51 c.val ↔ c.val = 100) ∧ (inW 66 c.val ↔ (c.val = 98 ∨ c.val = 66)) := by decide +kernel
set_option maxRecDepth 10000 in
def FIT (cv k : Int) : Prop := inW 63 cv ∨ k = 0 ∨ inW 64 cv ∨ ((inW 53 cv ∨ inW 51 cv) ∧ (k = 3 ∨ k = 4)) ∨ (¬ inW 53 cv ∧ ¬ inW 51 cv ∧ (k = 5 ∨ k = 6))
set_option maxRecDepth 10000 in
theorem MB_lb {h : Int32} {c : Nat → Int32} {bl : Nat} {E Q : List Int32} (hM : MB h c bl (E ++ Q)) : E.length + Q.length ≤ bl := by
  have := hM.2.1; simp at this; omega
set_option maxRecDepth 10000 in
theorem shown_spec {L : Nat} (hL2 : L ≤ 150000) {E : List Int32} {k v u cv pr : Int} (hcv : CVA cv) (hfit : FIT cv k) (hk0 : 0 ≤ k) (hk7 : k ≤ 7) (hv0 : -9223372036854775808 ≤ v) (hv1 : v < 9223372036854775808) (hu0 : 0 ≤ u) (hu1 : u < 18446744073709551616) (hvu : iL v = iL u) (p0 : -1 ≤ pr) (p1 : pr ≤ 9999) {w : Int} (hw0 : -1 ≤ w) (hw1 : w ≤ 9999) (hE : E.length + 30000 < L) {fc : Nat → Int32} (hzl : ¬ (¬ fc 4 ≤ 0 ∧ ¬ fc 0 ≤ 0)) (h103 : flLe cv = 103 → fc 1 ≤ 0) {kc : Nat → Int32} {vc : Nat → Int64} {a : Nat} (ha : a < 16) (hka : kc a = iI k) (hva : vc a = iL v) {X : List Int32} {tl : Nat → Int32} {tx : Nat → Nat → Int32} (hX : k = 7 → TP (tl a) (tx a) X ∧ X.length ≤ 200) (lc : Nat → Int64) (bi le us xn hn ln xp dn dp un up_ lp hp uu crn crp bo ng no : Int32) (xd hd ld dd ud sp crd yb : Nat → Int32) {h : Int32} {c : Nat → Int32} {bl : Nat} (hM : MB h c bl E) (hbl : bl ≤ 400000) :
    OUT πS (f_Md_shown (iI a) h (iI cv) kc vc bi le us xn xd lc hn hd ln ld xp dn dd dp un ud up_ lp hp sp tl (iI pr) (iI w) fc uu crn crp crd bo ng no yb c bl tx) bl L (fun r => ∃ Q, DQ cv k v u X pr w fc Q ∧ MBS (E ++ Q) r) := by
  obtain ⟨cv0, cv1⟩ := CVA_b hcv
  have hok : gx_ok (iI (a : Int)) 16 = true := by simp (disch := omega) only [iI_lit, iL_lit, iI_add, iI_sub, iI_mul, iI_neg, iL_add, iL_sub, iL_mul, iL_neg, iI_lt, iI_le, iI_eq, iL_lt, iL_le, iL_eqS, iI_c, iI_ok, iI_l, iL_i, iI_low, l_ushrI, l_shlI, l_shrI, i_shlI, i_shrI, i_ushrI, iI_div, iL_div, Int.toNat_natCast, Int.reduceToNat, iI_ofNat]; omega
  have hkz : (iI k = (0 : Int32)) = (k = 0) := by rw [show (0 : Int32) = iI 0 from rfl, iI_eq (by omega) (by omega) (by omega) (by omega)]
  obtain ⟨cN, rfl⟩ : ∃ x : Nat, cv = (x : Int) := ⟨cv.toNat, by omega⟩
  obtain ⟨w63, w64, w53, w51, w66⟩ := inW_cv ⟨cN, by omega⟩
  simp only at w63 w64 w53 w51 w66
  unfold f_Md_shown
  apply OUT_mo
  rw [one_spec (o := 63) (by omega) cv0 cv1, one_spec (o := 64) (by omega) cv0 cv1, one_spec (o := 53) (by omega) cv0 cv1, one_spec (o := 51) (by omega) cv0 cv1]
  simp only [Option.bind_some, if_pos hok]
  rw [iI_c (by omega) (by omega), Int.toNat_natCast, hka, hva]
  simp only [hkz]
  unfold DQ
  -- told, cut, padded
  have plain : (inW 63 (cN : Int) ∨ k = 0) → OUT πS (f_Md_shown_24 (iI a) h h (iI cN) kc vc bi le us xn xd lc hn hd ln ld xp dn dd dp un ud up_ lp hp sp tl (iI pr) (iI w) fc uu crn crp crd bo ng no yb c bl tx) bl L (fun r => ∃ Q, (∃ T, TLD (inW 66 (cN : Int)) k v u X T ∧ Q = upE (inW 73 (cN : Int)) (layP w (cutT pr T) (¬ fc 0 ≤ 0))) ∧ MBS (E ++ Q) r) := by
    intro _
    unfold f_Md_shown_24 f_Md_shown_59
    refine OUT_bind (told_spec hL2 hk0 hk7 hv0 hv1 hu0 hu1 hvu cv0 cv1 (by omega) ha hka hva hX bi le us xn hn ln xp dn dp un up_ lp hp xd hd ld dd ud lc sp hM hbl) (fun x hx g1 g2 => ?_)
    obtain ⟨T, hT, hMT⟩ := hx
    have hMT' : MB x.2.2.2.2.2.2.2.2.2.2.2.2.2.2.2.2.2.2.2.1 x.2.2.2.2.2.2.2.2.2.2.2.2.2.2.2.2.2.2.2.2.2.1 x.2.2.2.2.2.2.2.2.2.2.2.2.2.2.2.2.2.2.2.2.2.2 (E ++ T) := hMT
    have hTl : T.length ≤ 400000 := by have := MB_lb hMT'; omega
    have hTL : T.length ≤ 5000 := by
      unfold TLD at hT
      have l1 : (litL 67).length ≤ 10 := by decide
      have l2 : (litL 68).length ≤ 10 := by decide
      have l3 : (litL 69).length ≤ 10 := by decide
      split at hT
      · rw [hT]; split <;> omega
      · split at hT
        · rw [hT]; omega
        · split at hT
          · rw [hT]; split <;> omega
          · split at hT
            · rw [hT]; simp
            · split at hT
              · rw [hT]; have := spl_20 hv0 hv1; omega
              · split at hT
                · rename_i q7; rw [hT]; have := (hX q7).2; omega
                · have := shM_len (by split <;> omega) hT; omega
    -- behind the cut
    have fin : ∀ (h' : Int32), MB h' x.2.2.2.2.2.2.2.2.2.2.2.2.2.2.2.2.2.2.2.2.2.1 x.2.2.2.2.2.2.2.2.2.2.2.2.2.2.2.2.2.2.2.2.2.2 (E ++ cutT pr T) → OUT πS ((f_Md_padded h h' (iI w) fc x.2.2.2.2.2.2.2.2.2.2.2.2.2.2.2.2.2.2.2.2.2.1 x.2.2.2.2.2.2.2.2.2.2.2.2.2.2.2.2.2.2.2.2.2.2).bind fun u61 => gx_mo πS u61.2.2 (if x.2.2.2.2.2.2.2.2.2.2.2.2.2.2.2.2.2.2.2.2.2.2 ≤ u61.2.2 then f_Md_shown_137 h u61.1 (iI cN) kc vc x.1 x.2.1 x.2.2.1 x.2.2.2.1 x.2.2.2.2.1 x.2.2.2.2.2.1 x.2.2.2.2.2.2.1 x.2.2.2.2.2.2.2.1 x.2.2.2.2.2.2.2.2.1 x.2.2.2.2.2.2.2.2.2.1 x.2.2.2.2.2.2.2.2.2.2.1 x.2.2.2.2.2.2.2.2.2.2.2.1 x.2.2.2.2.2.2.2.2.2.2.2.2.1 x.2.2.2.2.2.2.2.2.2.2.2.2.2.1 x.2.2.2.2.2.2.2.2.2.2.2.2.2.2.1 x.2.2.2.2.2.2.2.2.2.2.2.2.2.2.2.1 x.2.2.2.2.2.2.2.2.2.2.2.2.2.2.2.2.1 x.2.2.2.2.2.2.2.2.2.2.2.2.2.2.2.2.2.1 x.2.2.2.2.2.2.2.2.2.2.2.2.2.2.2.2.2.2.1 x.2.2.2.2.2.2.2.2.2.2.2.2.2.2.2.2.2.2.2.2.1 tl (iI pr) (iI w) fc uu crn crp crd bo ng no yb u61.2.1 u61.2.2 tx else none)) x.2.2.2.2.2.2.2.2.2.2.2.2.2.2.2.2.2.2.2.2.2.2 L (fun r => ∃ Q, (∃ T, TLD (inW 66 (cN : Int)) k v u X T ∧ Q = upE (inW 73 (cN : Int)) (layP w (cutT pr T) (¬ fc 0 ≤ 0))) ∧ MBS (E ++ Q) r) := by
      intro h' hM'
      rw [hM.1]
      have hcl := cutT_len pr T
      refine OUT_bind (padded_spec hL2 hw0 hw1 (by omega) (by omega) fc hM' (by omega)) (fun y hy g3 g4 => ?_)
      have := up137 (L := L) (by have := MB_lb hy; omega) cv0 cv1 (iI pr) (iI w) kc fc tl vc x.2.2.2.2.2.1 x.1 x.2.1 x.2.2.1 x.2.2.2.1 x.2.2.2.2.2.2.1 x.2.2.2.2.2.2.2.2.1 x.2.2.2.2.2.2.2.2.2.2.1 x.2.2.2.2.2.2.2.2.2.2.2.1 x.2.2.2.2.2.2.2.2.2.2.2.2.2.1 x.2.2.2.2.2.2.2.2.2.2.2.2.2.2.1 x.2.2.2.2.2.2.2.2.2.2.2.2.2.2.2.2.1 x.2.2.2.2.2.2.2.2.2.2.2.2.2.2.2.2.2.1 x.2.2.2.2.2.2.2.2.2.2.2.2.2.2.2.2.2.2.1 uu crn crp bo ng no x.2.2.2.2.1 x.2.2.2.2.2.2.2.1 x.2.2.2.2.2.2.2.2.2.1 x.2.2.2.2.2.2.2.2.2.2.2.2.1 x.2.2.2.2.2.2.2.2.2.2.2.2.2.2.2.1 x.2.2.2.2.2.2.2.2.2.2.2.2.2.2.2.2.2.2.2.2.1 crd yb tx (by omega) hy
      exact OUT_imp this (fun r hr => ⟨_, ⟨T, hT, rfl⟩, hr⟩)
    by_cases q1 : pr < 0
    · rw [if_pos (show iI pr < 0 from by simp (disch := omega) only [iI_lit, iL_lit, iI_add, iI_sub, iI_mul, iI_neg, iL_add, iL_sub, iL_mul, iL_neg, iI_lt, iI_le, iI_eq, iL_lt, iL_le, iL_eqS, iI_c, iI_ok, iI_l, iL_i, iI_low, l_ushrI, l_shlI, l_shrI, i_shlI, i_shrI, i_ushrI, iI_div, iL_div, Int.toNat_natCast, Int.reduceToNat, iI_ofNat]; omega)]
      exact fin _ (by unfold cutT; rw [if_neg (by omega)]; exact hMT')
    · rw [if_neg (show ¬ iI pr < 0 from by simp (disch := omega) only [iI_lit, iL_lit, iI_add, iI_sub, iI_mul, iI_neg, iL_add, iL_sub, iL_mul, iL_neg, iI_lt, iI_le, iI_eq, iL_lt, iL_le, iL_eqS, iI_c, iI_ok, iI_l, iL_i, iI_low, l_ushrI, l_shlI, l_shrI, i_shlI, i_shrI, i_ushrI, iI_div, iL_div, Int.toNat_natCast, Int.reduceToNat, iI_ofNat]; omega)]
      have hd : x.2.2.2.2.2.2.2.2.2.2.2.2.2.2.2.2.2.2.2.1 - h = iI (T.length : Int) := by
        rw [hMT'.1, hM.1, iI_sub, List.length_append]; congr 1; omega
      rw [hd]
      by_cases q2 : (T.length : Int) ≤ pr
      · rw [if_pos (show iI (T.length : Int) ≤ iI pr from by simp (disch := omega) only [iI_lit, iL_lit, iI_add, iI_sub, iI_mul, iI_neg, iL_add, iL_sub, iL_mul, iL_neg, iI_lt, iI_le, iI_eq, iL_lt, iL_le, iL_eqS, iI_c, iI_ok, iI_l, iL_i, iI_low, l_ushrI, l_shlI, l_shrI, i_shlI, i_shrI, i_ushrI, iI_div, iL_div, Int.toNat_natCast, Int.reduceToNat, iI_ofNat]; omega)]
        exact fin _ (by unfold cutT; rw [if_neg (by omega)]; exact hMT')
      · rw [if_neg (show ¬ iI (T.length : Int) ≤ iI pr from by simp (disch := omega) only [iI_lit, iL_lit, iI_add, iI_sub, iI_mul, iI_neg, iL_add, iL_sub, iL_mul, iL_neg, iI_lt, iI_le, iI_eq, iL_lt, iL_le, iL_eqS, iI_c, iI_ok, iI_l, iL_i, iI_low, l_ushrI, l_shlI, l_shrI, i_shlI, i_shrI, i_ushrI, iI_div, iL_div, Int.toNat_natCast, Int.reduceToNat, iI_ofNat]; omega)]
        have hh : h + iI pr = iI ((E.length + pr.toNat : Nat) : Int) := by rw [hM.1, iI_add]; congr 1; omega
        rw [hh]
        exact fin _ (by unfold cutT; rw [if_pos (by omega)]; exact MB_take hMT' (by omega))
  by_cases q63 : inW 63 (cN : Int)
  · rw [if_pos q63, if_neg (show ¬ (1 : Int32) = 0 from by decide)]
    simp only [if_pos (show inW 63 (cN : Int) ∨ k = 0 from Or.inl q63)]
    exact plain (Or.inl q63)
  · rw [if_neg q63, if_pos rfl]
    by_cases qk : k = 0
    · rw [if_pos qk]
      simp only [if_pos (show inW 63 (cN : Int) ∨ k = 0 from Or.inr qk)]
      exact plain (Or.inr qk)
    · rw [if_neg qk]
      have hno : ¬ (inW 63 (cN : Int) ∨ k = 0) := fun y => by rcases y with y | y; exact q63 y; exact qk y
      simp only [if_neg hno]
      by_cases q64 : inW 64 (cN : Int)
      · rw [if_pos q64, if_neg (show ¬ (1 : Int32) = 0 from by decide)]
        simp only [if_pos q64]
        rw [iL_i]
        refine OUT_bind (OUT_put hM (by omega) (by omega) hbl (iI v)) (fun x hx g1 g2 => ?_)
        rw [hM.1]
        refine OUT_bind (padded_spec hL2 hw0 hw1 (by omega) (by simp; omega) fc hx (by omega)) (fun y hy g3 g4 => ?_)
        have := up137 (L := L) (by have := MB_lb hy; omega) cv0 cv1 (iI pr) (iI w) kc fc tl vc lc bi le us xn hn ln xp dn dp un up_ lp hp uu crn crp bo ng no xd hd ld dd ud sp crd yb tx (by omega) hy
        exact OUT_imp this (fun r hr => ⟨_, rfl, hr⟩)
      · rw [if_neg q64, if_pos rfl]
        simp only [if_neg q64]
        by_cases q53 : inW 53 (cN : Int)
        · rw [if_pos q53, if_neg (show ¬ (1 : Int32) = 0 from by decide)]
          simp only [if_pos q53]
          have hk34 : k = 3 ∨ k = 4 := by
            rcases hfit with y | y | y | y | y
            · exact absurd y q63
            · exact absurd y qk
            · exact absurd y q64
            · exact y.2
            · exact absurd q53 y.1
          refine OUT_bind (munsigned_spec hL2 hk34 hu0 hu1 hvu (by have := w53.mp q53; omega) hw0 hw1 (by omega) fc hzl ha hka hva sp hM hbl) (fun x hx g1 g2 => ?_)
          obtain ⟨dd', hR, _, hMx⟩ := hx
          have hMx' : MB x.1 x.2.2.1 x.2.2.2 _ := hMx
          rw [hM.1]
          have := up137 (L := L) (by have := MB_lb hMx'; omega) cv0 cv1 (iI pr) (iI w) kc fc tl vc lc bi le us xn hn ln xp dn dp un up_ lp hp uu crn crp bo ng no xd hd ld dd ud x.2.1 crd yb tx (by omega) hMx'
          exact OUT_imp this (fun r hr => ⟨_, ⟨dd', hR, rfl⟩, hr⟩)
        · rw [if_neg q53, if_pos rfl]
          simp only [if_neg q53]
          by_cases q51 : inW 51 (cN : Int)
          · rw [if_pos q51, if_neg (show ¬ (1 : Int32) = 0 from by decide)]
            simp only [if_pos q51]
            refine OUT_bind (mwhole_spec hL2 hv0 hv1 hw0 hw1 hE fc ha hva sp hzl ng no bo uu yb hM hbl) (fun x hx g1 g2 => ?_)
            have hMx' : MB x.2.2.1 x.2.2.2.2.2.2.2.1 x.2.2.2.2.2.2.2.2 _ := hx
            rw [hM.1]
            have := up137 (L := L) (by have := MB_lb hMx'; omega) cv0 cv1 (iI pr) (iI w) kc fc tl vc lc bi le us xn hn ln xp dn dp un up_ lp hp x.2.2.2.2.2.2.1 crn crp x.2.2.2.2.1 x.2.1 x.2.2.2.1 xd hd ld dd ud x.1 crd x.2.2.2.2.2.1 tx (by omega) hMx'
            exact OUT_imp this (fun r hr => ⟨_, rfl, hr⟩)
          · rw [if_neg q51, if_pos rfl]
            simp only [if_neg q51]
            have hk56 : k = 5 ∨ k = 6 := by
              rcases hfit with y | y | y | y | y
              · exact absurd y q63
              · exact absurd y qk
              · exact absurd y q64
              · rcases y.1 with z | z
                · exact absurd z q53
                · exact absurd z q51
              · exact y.2.2
            have hs : (if k = 6 then 0 else 1) < 2 := by split <;> omega
            have hks : (kc a = 6) = ((if k = 6 then 0 else 1) = 0) := by
              rw [hka, show (6 : Int32) = iI 6 from rfl, iI_eq (by omega) (by omega) (by omega) (by omega)]
              by_cases y : k = 6
              · rw [if_pos y]; exact propext ⟨fun _ => rfl, fun _ => y⟩
              · rw [if_neg y]; exact propext ⟨fun z => absurd z y, fun z => absurd z (by decide)⟩
            have hcf : (cN : Int) = 101 ∨ (cN : Int) = 69 ∨ (cN : Int) = 102 ∨ (cN : Int) = 103 ∨ (cN : Int) = 71 ∨ (cN : Int) = 97 ∨ (cN : Int) = 65 := by
              unfold CVA at hcv
              have n1 : ¬ (cN = 115 ∨ cN = 83 ∨ cN = 98 ∨ cN = 66) := fun y => q63 (w63.mpr y)
              have n2 : ¬ (cN = 99 ∨ cN = 67) := fun y => q64 (w64.mpr y)
              have n3 : ¬ (cN = 111 ∨ cN = 120 ∨ cN = 88) := fun y => q53 (w53.mpr y)
              have n4 : ¬ cN = 100 := fun y => q51 (w51.mpr y)
              omega
            refine OUT_bind (mfloat_spec hL2 hs hu0 hu1 hcf p0 p1 hw0 hw1 hE fc hzl h103 ha (by rw [hva, hvu]) hks bi uu le us xn xp crn crp bo ng no lc xd crd sp yb hM hbl) (fun x hx g1 g2 => ?_)
            obtain ⟨Q0, hQ0, hMx⟩ := hx
            have hMx' : MB x.2.2.2.2.2.2.2.2.2.2.2.2.2.1 x.2.2.2.2.2.2.2.2.2.2.2.2.2.2.2.2.2.1 x.2.2.2.2.2.2.2.2.2.2.2.2.2.2.2.2.2.2 (E ++ Q0) := hMx
            rw [hM.1]
            have := up137 (L := L) (by have := MB_lb hMx'; omega) cv0 cv1 (iI pr) (iI w) kc fc tl vc x.2.2.2.2.2.2.1 x.1 x.2.2.1 x.2.2.2.1 x.2.2.2.2.1 hn ln x.2.2.2.2.2.2.2.1 dn dp un up_ lp hp x.2.1 x.2.2.2.2.2.2.2.2.1 x.2.2.2.2.2.2.2.2.2.1 x.2.2.2.2.2.2.2.2.2.2.2.1 x.2.2.2.2.2.2.2.2.2.2.2.2.2.2.1 x.2.2.2.2.2.2.2.2.2.2.2.2.2.2.2.1 x.2.2.2.2.2.1 hd ld dd ud x.2.2.2.2.2.2.2.2.2.2.2.2.1 x.2.2.2.2.2.2.2.2.2.2.1 x.2.2.2.2.2.2.2.2.2.2.2.2.2.2.2.2.1 tx (by omega) hMx'
            exact OUT_imp this (fun r hr => ⟨_, ⟨Q0, hQ0, rfl⟩, hr⟩)
-- UK
set_option maxRecDepth 10000 in
abbrev FITC (cv k v : Int) : Prop := k = 0 ∨ inW 63 cv ∨ (inW 64 cv ∧ (k = 2 ∨ (k = 3 ∧ 32 ≤ v ∧ v ≤ 126))) ∨ ((inW 53 cv ∨ inW 51 cv) ∧ (k = 3 ∨ k = 4)) ∨ (¬ inW 63 cv ∧ ¬ inW 64 cv ∧ ¬ inW 53 cv ∧ ¬ inW 51 cv ∧ (k = 5 ∨ k = 6))
set_option maxRecDepth 10000 in
abbrev FITL (le k v : Int) : Prop := k = 0 ∨ le = 98 ∨ le = 115 ∨ (le = 99 ∧ (k = 2 ∨ (k = 3 ∧ 32 ≤ v ∧ v ≤ 126))) ∨ ((le = 111 ∨ le = 120 ∨ le = 100) ∧ (k = 3 ∨ k = 4)) ∨ (¬ le = 98 ∧ ¬ le = 115 ∧ ¬ le = 99 ∧ ¬ le = 111 ∧ ¬ le = 120 ∧ ¬ le = 100 ∧ (k = 5 ∨ k = 6))
set_option maxRecDepth 10000 in
theorem fits_L {le k v : Int} (l0 : 0 ≤ le) (l1 : le < 128) (k0 : 0 ≤ k) (k7 : k ≤ 7) (hv0 : -9223372036854775808 ≤ v) (hv1 : v < 9223372036854775808) :
    f_Pr_fits (iI k) (iL v) (iI le) = some (if FITL le k v then 1 else 0) := by
  unfold f_Pr_fits f_Pr_fits_87 f_Pr_fits_91 f_Pr_fits_103 f_Pr_fits_120 f_Nt_isCharacter f_Nt_isCharacter_20
  have hb0 : ∀ c : Int, 0 ≤ c → c < 128 → (iI k = iI c) = (k = c) := fun c a b => by rw [iI_eq (by omega) (by omega) (by omega) (by omega)]
  have hb1 : ∀ c : Int, 0 ≤ c → c < 128 → (iI le = iI c) = (le = c) := fun c a b => by rw [iI_eq (by omega) (by omega) (by omega) (by omega)]
  have v1 : (iL v < (32 : Int64)) = (v < 32) := by rw [show (32 : Int64) = iL 32 from rfl, iL_lt (by omega) (by omega) (by omega) (by omega)]
  have v2 : ((126 : Int64) < iL v) = (126 < v) := by rw [show (126 : Int64) = iL 126 from rfl, iL_lt (by omega) (by omega) (by omega) (by omega)]
  rw [show (0 : Int32) = iI 0 from rfl, show (98 : Int32) = iI 98 from rfl, show (99 : Int32) = iI 99 from rfl, show (2 : Int32) = iI 2 from rfl, show (3 : Int32) = iI 3 from rfl, show (100 : Int32) = iI 100 from rfl, show (111 : Int32) = iI 111 from rfl, show (115 : Int32) = iI 115 from rfl, show (120 : Int32) = iI 120 from rfl, show (4 : Int32) = iI 4 from rfl, show (5 : Int32) = iI 5 from rfl, show (6 : Int32) = iI 6 from rfl]
  simp only [hb0 0 (by omega) (by omega), hb0 2 (by omega) (by omega), hb0 3 (by omega) (by omega), hb0 4 (by omega) (by omega), hb0 5 (by omega) (by omega), hb0 6 (by omega) (by omega), hb1 98 (by omega) (by omega), hb1 99 (by omega) (by omega), hb1 100 (by omega) (by omega), hb1 111 (by omega) (by omega), hb1 115 (by omega) (by omega), hb1 120 (by omega) (by omega), v1, v2]
  by_cases q0 : k = 0
  · rw [if_pos q0, if_pos (show FITL le k v by unfold FITL; omega)]
  rw [if_neg q0]
  by_cases q1 : le = 98
  · rw [if_pos q1, if_pos (show FITL le k v by unfold FITL; omega)]
  rw [if_neg q1]
  by_cases q2 : le = 99
  · rw [if_pos q2]
    by_cases r : k = 2
    · rw [if_pos r, if_pos (show FITL le k v by unfold FITL; omega)]
    rw [if_neg r]
    by_cases r3 : k = 3
    · rw [if_pos r3]
      by_cases w1 : v < 32
      · rw [if_pos w1, Option.bind_some, if_pos rfl, if_neg (show ¬ FITL le k v by unfold FITL; omega)]
      rw [if_neg w1]
      by_cases w2 : 126 < v
      · rw [if_pos w2, Option.bind_some, if_pos rfl, if_neg (show ¬ FITL le k v by unfold FITL; omega)]
      rw [if_neg w2, Option.bind_some, if_neg (by decide), if_pos (show FITL le k v by unfold FITL; omega)]
    rw [if_neg r3, if_neg (show ¬ FITL le k v by unfold FITL; omega)]
  rw [if_neg q2]
  have hdox : (le = 100 ∨ le = 111 ∨ le = 120) → (if k = 3 then some (1 : Int32) else if k = 4 then some 1 else some (iI 0)) = some (if FITL le k v then 1 else iI 0) := by
    intro hd
    by_cases r3 : k = 3
    · rw [if_pos r3, if_pos (show FITL le k v by unfold FITL; omega)]
    rw [if_neg r3]
    by_cases r4 : k = 4
    · rw [if_pos r4, if_pos (show FITL le k v by unfold FITL; omega)]
    rw [if_neg r4, if_neg (show ¬ FITL le k v by unfold FITL; omega)]
  by_cases q3 : le = 100
  · rw [if_pos q3]; exact hdox (Or.inl q3)
  rw [if_neg q3]
  by_cases q4 : le = 111
  · rw [if_pos q4]; exact hdox (Or.inr (Or.inl q4))
  rw [if_neg q4]
  by_cases q5 : le = 115
  · rw [if_pos q5, if_pos (show FITL le k v by unfold FITL; omega)]
  rw [if_neg q5]
  by_cases q6 : le = 120
  · rw [if_pos q6]; exact hdox (Or.inr (Or.inr q6))
  rw [if_neg q6]
  by_cases r3 : k = 5
  · rw [if_pos r3, if_pos (show FITL le k v by unfold FITL; omega)]
  rw [if_neg r3]
  by_cases r4 : k = 6
  · rw [if_pos r4, if_pos (show FITL le k v by unfold FITL; omega)]
  rw [if_neg r4, if_neg (show ¬ FITL le k v by unfold FITL; omega)]
set_option maxRecDepth 10000 in
theorem leV_b {cv : Int} (h : CVA cv) : 0 ≤ leV cv ∧ leV cv < 128 := by unfold CVA at h; unfold leV; split <;> omega
set_option maxRecDepth 10000 in
theorem inW_le {cv : Int} (h : CVA cv) : (inW 63 cv ↔ (leV cv = 115 ∨ leV cv = 98)) ∧ (inW 64 cv ↔ leV cv = 99) ∧ (inW 53 cv ↔ (leV cv = 111 ∨ leV cv = 120)) ∧ (inW 51 cv ↔ leV cv = 100) ∧ (inW 66 cv ↔ leV cv = 98) := by
  obtain ⟨c0, c1⟩ := CVA_b h
  obtain ⟨cN, rfl⟩ : ∃ x : Nat, cv = (x : Int) := ⟨cv.toNat, by omega⟩
  obtain ⟨w63, w64, w53, w51, w66⟩ := inW_cv ⟨cN, by omega⟩
  simp only at w63 w64 w53 w51 w66
  rw [w63, w64, w53, w51, w66]
  unfold CVA at h
  unfold leV
  split <;> omega
set_option maxRecDepth 10000 in
theorem FITL_C {cv k v : Int} (h : CVA cv) : FITL (leV cv) k v ↔ FITC cv k v := by
  obtain ⟨a1, a2, a3, a4, a5⟩ := inW_le h
  unfold FITL FITC
  rw [a1, a2, a3, a4]
  omega
set_option maxRecDepth 10000 in
theorem fits_spec {cv k v : Int} (h : CVA cv) (k0 : 0 ≤ k) (k7 : k ≤ 7) (hv0 : -9223372036854775808 ≤ v) (hv1 : v < 9223372036854775808) :
    f_Pr_fits (iI k) (iL v) (iI (leV cv)) = some (if FITC cv k v then 1 else 0) := by
  obtain ⟨b0, b1⟩ := leV_b h
  rw [fits_L b0 b1 k0 k7 hv0 hv1]
  congr 1
  by_cases q : FITC cv k v
  · rw [if_pos q, if_pos ((FITL_C h).mpr q)]
  · rw [if_neg q, if_neg (fun y => q ((FITL_C h).mp y))]
set_option maxRecDepth 10000 in
theorem FITC_FIT {cv k v : Int} (h : FITC cv k v) : FIT cv k := by
  unfold FITC at h; unfold FIT
  rcases h with h | h | h | h | h
  · exact Or.inr (Or.inl h)
  · exact Or.inl h
  · exact Or.inr (Or.inr (Or.inl h.1))
  · exact Or.inr (Or.inr (Or.inr (Or.inl h)))
  · exact Or.inr (Or.inr (Or.inr (Or.inr ⟨h.2.2.1, h.2.2.2.1, h.2.2.2.2⟩)))
set_option maxRecDepth 10000 in
theorem pcut_spec {nh nb : Nat} (hnh : nh < 1000000) (hnb : nb < 1000000) {hl ho bl bo : Int32} {hc bc : Nat → Int32} {H B : List Int32} (hH : BY nh hl ho hc H) (hHl : H.length ≤ nh) (hB : BY nb bl bo bc B) (hBl : B.length ≤ nb) {pr : Int} (p0 : -1 ≤ pr) (p1 : pr ≤ 9999) :
    ∃ hl' bl' ho' bo', f_Pr_cut (iI pr) hl bl ho bo = some (hl', bl', ho', bo') ∧ ∃ H' B', H' ++ B' = cutT pr (H ++ B) ∧ H'.length ≤ nh ∧ B'.length ≤ nb ∧ BY nh hl' ho' hc H' ∧ BY nb bl' bo' bc B' := by
  unfold f_Pr_cut
  by_cases q : pr = -1
  · rw [if_pos (show iI pr = (-1) from by rw [q]; rfl)]
    refine ⟨_, _, _, _, rfl, H, B, ?_, hHl, hBl, hH, hB⟩
    unfold cutT; rw [if_neg (by omega)]
  · rw [if_neg (show ¬ iI pr = (-1) from by rw [show (-1 : Int32) = iI (-1) from rfl, iI_eq (by omega) (by omega) (by omega) (by omega)]; exact q)]
    have hhl : hl = iI (H.length : Int) := by rw [hH.1]; congr 2; omega
    rw [hhl, min_spec (by omega) (by omega) (by omega) (by omega), Option.bind_some]
    have hH' := hH
    rw [hhl] at hH'
    obtain ⟨l1, o1, e1, b1⟩ := keep_spec (by omega) hH' (m := min (H.length : Int) pr) (by omega) (by omega)
    rw [e1, Option.bind_some, iI_sub]
    obtain ⟨l2, o2, e2, b2⟩ := keep_spec (by omega) hB (m := pr - min (H.length : Int) pr) (by omega) (by omega)
    rw [e2, Option.bind_some]
    have t1 : H.take nh = H := List.take_of_length_le hHl
    have t2 : B.take nb = B := List.take_of_length_le hBl
    rw [t1] at b1
    rw [t2] at b2
    refine ⟨_, _, _, _, rfl, _, _, ?_, ?_, ?_, b1, b2⟩
    · unfold cutT
      by_cases q2 : 0 ≤ pr ∧ pr < (H ++ B).length
      · rw [if_pos q2, List.take_append]
        by_cases q3 : (H.length : Int) ≤ pr
        · rw [show min (H.length : Int) pr = H.length by omega, Int.toNat_natCast, List.take_of_length_le (Nat.le_refl _), List.take_of_length_le (show H.length ≤ pr.toNat by omega)]
          congr 2; omega
        · rw [show min (H.length : Int) pr = pr by omega]
          congr 2; omega
      · rw [if_neg q2]
        rw [List.length_append] at q2
        rw [List.take_of_length_le (by omega), List.take_of_length_le (by omega)]
    · rw [List.length_take]; omega
    · rw [List.length_take]; omega
-- UL
set_option maxRecDepth 10000 in
theorem nd1_v (v : Int) : ((nd1 v.natAbs : Nat) : Int) = if v = 0 then 1 else (nd v.natAbs : Int) := by
  unfold nd1
  by_cases q : v = 0
  · subst q; rfl
  · rw [if_neg q, if_neg (by omega)]
set_option maxRecDepth 10000 in
theorem pwhole_spec {nh nb : Nat} (hnh : nh < 1000000) (hnb : nb < 1000000) {v : Int} (hv0 : -9223372036854775808 ≤ v) (hv1 : v < 9223372036854775808) (fl : Int32) {hl ho bl bo : Int32} {hc bc : Nat → Int32} {H B : List Int32} (hH : BY nh hl ho hc H) (hB : BY nb bl bo bc B) (sz pt : Int32) (dc : Nat → Int32) :
    ∃ hl' ho' hc' bl' bo' bc' sz' pt' dc', f_Pr_fillWhole (iL v) nh nb fl hl 0 sz pt dc bl ho hc bo bc = some (hl', closE (v < 0) fl, sz', pt', dc', bl', ho', hc', bo', bc') ∧ BY nh hl' ho' hc' (H ++ signE (v < 0) fl) ∧ BY nb bl' bo' bc' (B ++ wholeD v (fl &&& 32 ≠ 0)) := by
  have key : ∀ ng : Int32, (ng ≠ 0 ↔ v < 0) → ∃ hl' ho' hc' bl' bo' bc' sz' pt' dc', f_Pr_fillWhole_12 (iL v) ng nh nb fl hl 0 sz pt dc bl ho hc bo bc = some (hl', closE (v < 0) fl, sz', pt', dc', bl', ho', hc', bo', bc') ∧ BY nh hl' ho' hc' (H ++ signE (v < 0) fl) ∧ BY nb bl' bo' bc' (B ++ wholeD v (fl &&& 32 ≠ 0)) := by
    intro ng hng
    unfold f_Pr_fillWhole_12
    obtain ⟨l1, o1, c1, e1, b1⟩ := addSign_spec hnh hH ng fl
    have es : signE (ng ≠ 0) fl = signE (v < 0) fl := by unfold signE; by_cases q : v < 0; rw [if_pos q, if_pos (hng.mpr q)]; rw [if_neg q, if_neg (fun y => q (hng.mp y))]
    have ec : closE (ng ≠ 0) fl = closE (v < 0) fl := by unfold closE; by_cases q : v < 0; rw [if_pos q, if_pos (hng.mpr q)]; rw [if_neg q, if_neg (fun y => q (hng.mp y))]
    rw [es] at b1
    rw [ec] at e1
    rw [e1, Option.bind_some]
    obtain ⟨sz', dc', hD, e2⟩ := tw_spec hv0 hv1 sz pt dc
    rw [e2, Option.bind_some, has_spec, Option.bind_some]
    dsimp only
    rw [← nd1_v v]
    have hn20 : (nd1 v.natAbs) ≤ 20 := by
      have := spl_20 hv0 hv1
      rw [spl_len] at this; omega
    obtain ⟨l2, o2, c2, e3, b2⟩ := aw_spec hD (p := ((nd1 v.natAbs : Nat) : Int)) (by omega) (by omega) (if fl &&& 32 = 0 then 0 else 1) (n := nb) (by omega) hB
    rw [e3, Option.bind_some]
    refine ⟨_, _, _, _, _, _, _, _, _, rfl, b1, ?_⟩
    have ew : wholeE (digF v.natAbs) ((nd1 v.natAbs : Nat) : Int) ((if fl &&& 32 = 0 then (0 : Int32) else 1) ≠ 0) = wholeD v (fl &&& 32 ≠ 0) := by
      unfold wholeD
      congr 1
      by_cases q : fl &&& 32 = 0 <;> simp [q]
    rw [← ew]
    exact b2
  unfold f_Pr_fillWhole
  by_cases q : 0 ≤ v
  · rw [if_pos (show (0 : Int64) ≤ iL v from by simp (disch := omega) only [iI_lit, iL_lit, iI_add, iI_sub, iI_mul, iI_neg, iL_add, iL_sub, iL_mul, iL_neg, iI_lt, iI_le, iI_eq, iL_lt, iL_le, iL_eqS, iI_c, iI_ok, iI_l, iL_i, iI_low, l_ushrI, l_shlI, l_shrI, i_shlI, i_shrI, i_ushrI, iI_div, iL_div, Int.toNat_natCast, Int.reduceToNat, iI_ofNat]; omega)]
    exact key 0 ⟨fun h => absurd rfl h, fun h => by omega⟩
  · rw [if_neg (show ¬ (0 : Int64) ≤ iL v from by simp (disch := omega) only [iI_lit, iL_lit, iI_add, iI_sub, iI_mul, iI_neg, iL_add, iL_sub, iL_mul, iL_neg, iI_lt, iI_le, iI_eq, iL_lt, iL_le, iL_eqS, iI_c, iI_ok, iI_l, iL_i, iI_low, l_ushrI, l_shlI, l_shrI, i_shlI, i_shrI, i_ushrI, iI_div, iL_div, Int.toNat_natCast, Int.reduceToNat, iI_ofNat]; omega)]
    exact key 1 ⟨fun _ => by omega, fun _ => by decide⟩
set_option maxRecDepth 10000 in
def unC (le : Int) (fl : Int32) : List Int32 := if fl &&& 2 = 0 then [] else if le = 120 then litL 16 else litL 39
set_option maxRecDepth 10000 in
theorem fbits_spec {nh nb : Nat} (hnh : nh < 1000000) (hnb : nb < 1000000) {k u le : Int} (hk : k = 3 ∨ k = 4) (hu0 : 0 ≤ u) (hu1 : u < 18446744073709551616) (hle : le = 111 ∨ le = 120) (fl : Int32) {hl ho bl bo : Int32} {hc bc : Nat → Int32} {H B : List Int32} (hH : BY nh hl ho hc H) (hB : BY nb bl bo bc B) :
    ∃ hl' ho' hc' bl' bo' bc' d, f_Pr_fillBits (iI k) (iL u) nb nh (iI le) fl bl hl bo bc ho hc = some (bl', hl', bo', bc', ho', hc') ∧ RN (unX k u) (if le = 120 then 4 else 3) d ∧ d ≤ 22 ∧ BY nh hl' ho' hc' (H ++ unC le fl) ∧ BY nb bl' bo' bc' (B ++ rdxL (unX k u) (if le = 120 then 4 else 3) d) := by
  have key : ∀ x : Int, 0 ≤ x → x < 18446744073709551616 → ∃ hl' ho' hc' bl' bo' bc' d, f_Pr_fillBits_14 (iL x) nb nh (iI le) fl bl hl bo bc ho hc = some (bl', hl', bo', bc', ho', hc') ∧ RN x (if le = 120 then 4 else 3) d ∧ d ≤ 22 ∧ BY nh hl' ho' hc' (H ++ unC le fl) ∧ BY nb bl' bo' bc' (B ++ rdxL x (if le = 120 then 4 else 3) d) := by
    intro x x0 x1
    have k30 : ∀ st : Nat, st = (if le = 120 then 4 else 3) → ∃ hl' ho' hc' bl' bo' bc' d, f_Pr_fillBits_30 (iL x) (iI st) nb nh (iI le) fl bl hl bo bc ho hc = some (bl', hl', bo', bc', ho', hc') ∧ RN x (if le = 120 then 4 else 3) d ∧ d ≤ 22 ∧ BY nh hl' ho' hc' (H ++ unC le fl) ∧ BY nb bl' bo' bc' (B ++ rdxL x (if le = 120 then 4 else 3) d) := by
      intro st hst
      rw [← hst]
      have hst' : st = 3 ∨ st = 4 := by split at hst <;> omega
      unfold f_Pr_fillBits_30 f_Pr_fillBits_60 unC
      rw [has_spec, Option.bind_some]
      by_cases qf : fl &&& 2 = 0
      · rw [if_pos qf, if_pos rfl, if_pos qf, List.append_nil]
        obtain ⟨l, o, c, d, e, r, d22, b⟩ := fb63 hnb x0 x1 hst' nh (iI le) fl hl ho hc hB
        exact ⟨_, _, _, _, _, _, d, e, r, d22, hH, b⟩
      · rw [if_neg qf, if_neg (show ¬ (1 : Int32) = 0 from by decide), if_neg qf]
        by_cases ql : le = 120
        · rw [if_pos (show iI le = 120 from by rw [ql]; rfl), if_pos ql]
          obtain ⟨l1, o1, c1, e1, b1⟩ := astr_spec (o := 16) (by omega) (by decide) hH
          rw [e1, Option.bind_some]
          obtain ⟨l, o, c, d, e, r, d22, b⟩ := fb63 hnb x0 x1 hst' nh (iI le) fl l1 o1 c1 hB
          exact ⟨_, _, _, _, _, _, d, e, r, d22, b1, b⟩
        · rw [if_neg (show ¬ iI le = 120 from by rw [show (120 : Int32) = iI 120 from rfl, iI_eq (by omega) (by omega) (by omega) (by omega)]; exact ql), if_neg ql]
          obtain ⟨l1, o1, c1, e1, b1⟩ := astr_spec (o := 39) (by omega) (by decide) hH
          rw [e1, Option.bind_some]
          obtain ⟨l, o, c, d, e, r, d22, b⟩ := fb63 hnb x0 x1 hst' nh (iI le) fl l1 o1 c1 hB
          exact ⟨_, _, _, _, _, _, d, e, r, d22, b1, b⟩
    unfold f_Pr_fillBits_14
    by_cases ql : le = 120
    · rw [if_pos (show iI le = 120 from by rw [ql]; rfl)]
      exact k30 4 (by rw [if_pos ql])
    · rw [if_neg (show ¬ iI le = 120 from by rw [show (120 : Int32) = iI 120 from rfl, iI_eq (by omega) (by omega) (by omega) (by omega)]; exact ql)]
      exact k30 3 (by rw [if_neg ql])
  unfold f_Pr_fillBits unX
  by_cases q : k = 3
  · rw [if_pos (show iI k = 3 from by rw [q]; rfl), if_pos q]
    have hm : iL u &&& 4294967295 = iL (u % 4294967296) := by
      rw [show (4294967295 : Int64) = iL 4294967295 from rfl, iL_lowL hu0 hu1]
    rw [hm]
    exact key _ (by omega) (by omega)
  · rw [if_neg (show ¬ iI k = 3 from by rw [show (3 : Int32) = iI 3 from rfl, iI_eq (by omega) (by omega) (by omega) (by omega)]; exact q), if_neg q]
    exact key _ hu0 hu1
set_option maxRecDepth 10000 in
theorem spL_whole (v : Int) : spL v = (if v < 0 then [iI 45] else []) ++ wholeD v False := by
  unfold spL wholeD wholeE
  congr 1
  have hm : max ((nd1 v.natAbs : Nat) : Int) 1 = ((nd1 v.natAbs : Nat) : Int) := by have := nd1_eq v.natAbs; omega
  rw [hm, Int.toNat_natCast]
  rw [List.flatMap_def, ← List.flatMap_def]
  have : ∀ l : List Nat, (∀ i ∈ l, i < nd1 v.natAbs) → l.map (fun i : Nat => iI (48 + (v.natAbs / 10 ^ (nd1 v.natAbs - 1 - i) % 10 : Nat))) = l.flatMap (wholeAt (digF v.natAbs) ((nd1 v.natAbs : Nat) : Int) False ((nd1 v.natAbs : Nat) : Int)) := by
    intro l
    induction l with
    | nil => intro _; rfl
    | cons a t ih =>
      intro hl
      rw [List.map_cons, List.flatMap_cons, ih (fun i hi => hl i (List.mem_cons_of_mem _ hi))]
      have ha := hl a List.mem_cons_self
      have hw : wholeAt (digF v.natAbs) ((nd1 v.natAbs : Nat) : Int) False ((nd1 v.natAbs : Nat) : Int) a = [iI (48 + (v.natAbs / 10 ^ (nd1 v.natAbs - 1 - a) % 10 : Nat))] := by
        unfold wholeAt
        rw [if_neg (fun y => y.1), List.nil_append]
        have := nd1_dig ha
        rw [← this]
        first
          | done
          | (congr 2; unfold dg; simp; omega)
          | (unfold dg; simp [ha])
      rw [hw]; rfl
  apply this
  intro i hi
  have := List.mem_range'.mp hi
  omega
-- UM
set_option maxRecDepth 10000 in
abbrev T31 := Int32 × Int32 × Int32 × Int32 × (Nat → Int32) × Int32 × Int32 × Int32 × Int32 × Int64 × Int32 × Int32 × Int32 × (Nat → Int32) × Int32 × (Nat → Int32) × Nat × Int32 × (Nat → Int32) × Int32 × (Nat → Int32) × Int32 × Int32 × (Nat → Int32) × Int32 × (Nat → Int32) × Int32 × Int32 × Int32 × (Nat → Int32) × (Nat → Int32)
set_option maxRecDepth 10000 in
def FPL (T : List Int32) (r : T31) : Prop := ∃ H B, H ++ B = T ∧ H.length ≤ 4 ∧ B.length ≤ 10600 ∧ BY 4 r.1 r.2.2.2.2.2.2.2.2.2.2.2.2.2.2.2.2.2.2.2.2.2.2.2.2.2.2.2.2.1 r.2.2.2.2.2.2.2.2.2.2.2.2.2.2.2.2.2.2.2.2.2.2.2.2.2.2.2.2.2.1 H ∧ BY 10600 r.2.2.2.2.2.1 r.2.2.2.2.2.2.2.2.2.2.2.2.2.2.2.2.2.2.2.2.2.2.2.2.2.2.1 r.2.2.2.2.2.2.2.2.2.2.2.2.2.2.2.2.2.2.2.2.2.2.2.2.2.2.2.2.2.2 B ∧ r.2.1 = 0 ∧ r.2.2.2.2.2.2.2.2.2.2.2.2.2.2.2.2.2.2.2.2.2.2.2.2.2.2.2.1 = 0
set_option maxRecDepth 10000 in
theorem fp219 {pr : Int} (p0 : -1 ≤ pr) (p1 : pr ≤ 9999) (le : Int) (fl : Int32) (kc : Nat → Int32) (vc : Nat → Int64) (tl tv : Nat → Int32) (tc : Nat → Nat → Int32) {hl ho bl bo : Int32} {hc bc : Nat → Int32} {H B : List Int32} (hH : BY 4 hl ho hc H) (hHl : H.length ≤ 4) (hB : BY 10600 bl bo bc B) (hBl : B.length ≤ 10600) (na ng inf q0 op vs us ws ts es ep rs ds dp : Int32) (c0 : Int64) (si : Nat) (vl ul wl tl_ ed rl dd : Nat → Int32) :
    ∃ r : T31, f_Pr_fillPlain_219 4 10600 kc vc (iI le) fl hl 0 ds dp dd bl (iI pr) na ng inf c0 q0 op vs vl us ul si ws wl ts tl_ es ep ed rs rl bo 0 ho hc bc tl tv tc = some r ∧ FPL (cutT pr (H ++ B)) r := by
  unfold f_Pr_fillPlain_219
  obtain ⟨hl', bl', ho', bo', e, H', B', t, h1, h2, b1, b2⟩ := pcut_spec (by omega) (by omega) hH hHl hB hBl p0 p1
  rw [e, Option.bind_some]
  exact ⟨_, rfl, H', B', t, h1, h2, b1, b2, rfl, rfl⟩
set_option maxRecDepth 10000 in
theorem fplain_spec {pr : Int} (p0 : -1 ≤ pr) (p1 : pr ≤ 9999) {le : Int} (l0 : 0 ≤ le) (l1 : le < 128) {k v u : Int} (hk0 : 0 ≤ k) (hk7 : k ≤ 7) (hk1 : k = 1 → v = 0 ∨ v = 1) (hv0 : -9223372036854775808 ≤ v) (hv1 : v < 9223372036854775808) (hu0 : 0 ≤ u) (hu1 : u < 18446744073709551616) (hvu : iL v = iL u) {fl : Int32} (hfl : k ≠ 0 → fl &&& 64 = 0 ∧ fl &&& 4 = 0 ∧ fl &&& 8 = 0 ∧ fl &&& 32 = 0) {kc : Nat → Int32} {vc : Nat → Int64} {tl tv : Nat → Int32} {tc : Nat → Nat → Int32} {a : Nat} (ha : a < 16) (hka : kc a = iI k) (hva : k ≠ 7 → vc a = iL v) {X : List Int32} (hX : k = 7 → BY 200 (tl a) (tv a) (tc a) X ∧ X.length ≤ 200) {T : List Int32} (hT : TLD (le = 98) k v u X T) {hl ho bl bo : Int32} {hc bc : Nat → Int32} (hH : BY 4 hl ho hc []) (hB : BY 10600 bl bo bc []) (zr : Int32) (na ng inf q0_ op vs us ws ts es ep rs ds dp : Int32) (c0 : Int64) (si : Nat) (vl ul wl tl_ ed rl dd : Nat → Int32) :
    ∃ r : T31, f_Pr_fillPlain (iI a) 4 10600 kc vc (iI le) fl hl 0 ds dp dd bl (iI pr) na ng inf c0 q0_ op vs vl us ul si ws wl ts tl_ es ep ed rs rl bo zr ho hc bc tl tv tc = some r ∧ FPL (cutT pr T) r := by
  have hok : gx_ok (iI (a : Int)) 16 = true := by simp (disch := omega) only [iI_lit, iL_lit, iI_add, iI_sub, iI_mul, iI_neg, iL_add, iL_sub, iL_mul, iL_neg, iI_lt, iI_le, iI_eq, iL_lt, iL_le, iL_eqS, iI_c, iI_ok, iI_l, iL_i, iI_low, l_ushrI, l_shlI, l_shrI, i_shlI, i_shrI, i_ushrI, iI_div, iL_div, Int.toNat_natCast, Int.reduceToNat, iI_ofNat]; omega
  unfold f_Pr_fillPlain
  simp only [if_pos hok]
  rw [iI_c (by omega) (by omega), Int.toNat_natCast, hka]
  have kq : ∀ j : Int, 0 ≤ j → j ≤ 7 → (iI k = iI j) = (k = j) := fun j j0 j7 => by rw [iI_eq (by omega) (by omega) (by omega) (by omega)]
  have k0 : (iI k = (0 : Int32)) = (k = 0) := kq 0 (by omega) (by omega)
  have k1 : (iI k = (1 : Int32)) = (k = 1) := kq 1 (by omega) (by omega)
  have k2 : (iI k = (2 : Int32)) = (k = 2) := kq 2 (by omega) (by omega)
  have k3 : (iI k = (3 : Int32)) = (k = 3) := kq 3 (by omega) (by omega)
  have k4 : (iI k = (4 : Int32)) = (k = 4) := kq 4 (by omega) (by omega)
  have k5 : (iI k = (5 : Int32)) = (k = 5) := kq 5 (by omega) (by omega)
  have k7 : (iI k = (7 : Int32)) = (k = 7) := kq 7 (by omega) (by omega)
  have l98 : (iI le = (98 : Int32)) = (le = 98) := by rw [show (98 : Int32) = iI 98 from rfl, iI_eq (by omega) (by omega) (by omega) (by omega)]
  have v0 : (iL v = (0 : Int64)) = (v = 0) := by rw [show (0 : Int64) = iL 0 from rfl, iL_eqS (by omega) (by omega) (by omega) (by omega)]
  simp only [k0, k1, k2, k3, k4, k5, k7, l98]
  have lit : ∀ o : Nat, o < 74 → (litL o).length ≤ 10 → ∃ l' o' c', f_By_addString o 10600 bl bo bc = some (l', o', c') ∧ BY 10600 l' o' c' (litL o) := by
    intro o ho hl
    obtain ⟨l1, o1, c1, e1, b1⟩ := astr_spec (o := o) (by omega) ho hB
    exact ⟨_, _, _, e1, by rw [List.nil_append] at b1; exact b1⟩
  have fin : ∀ {l' o' : Int32} {c' : Nat → Int32} {T' : List Int32}, BY 10600 l' o' c' T' → T'.length ≤ 10600 → T' = T → ∃ r : T31, f_Pr_fillPlain_219 4 10600 kc vc (iI le) fl hl 0 ds dp dd l' (iI pr) na ng inf c0 q0_ op vs vl us ul si ws wl ts tl_ es ep ed rs rl o' 0 ho hc c' tl tv tc = some r ∧ FPL (cutT pr T) r := by
    intro l' o' c' T' hb hl he
    rw [← he]
    have := fp219 p0 p1 le fl kc vc tl tv tc hH (by simp) hb hl na ng inf q0_ op vs us ws ts es ep rs ds dp c0 si vl ul wl tl_ ed rl dd
    rw [List.nil_append] at this
    exact this
  have len67 : litL 36 = litL 67 ∧ litL 37 = litL 68 ∧ litL 38 = litL 69 ∧ (litL 36).length ≤ 10 ∧ (litL 37).length ≤ 10 ∧ (litL 38).length ≤ 10 := by decide
  obtain ⟨g1, g2, g3, n1, n2, n3⟩ := len67
  unfold TLD at hT
  unfold f_Pr_fillPlain_49 f_Pr_fillPlain_53 f_Pr_fillPlain_54 f_Pr_fillPlain_72 f_Pr_fillPlain_116
  by_cases qb : le = 98
  · rw [if_pos qb] at hT ⊢
    by_cases q0 : k = 0
    · rw [if_pos q0]
      rw [if_pos (Or.inl q0)] at hT
      rw [if_neg (show ¬ (1 : Int32) = 0 from by decide)]
      obtain ⟨l', o', c', e, b⟩ := lit 36 (by omega) n1
      rw [e, Option.bind_some]
      exact fin b (by omega) (by rw [hT, g1])
    · rw [if_neg q0]
      by_cases q1 : k = 1
      · rw [if_pos q1, hva (by omega)]
        by_cases qv : v = 0
        · rw [if_pos (show iL v = (0 : Int64) from by rw [qv]; rfl)]
          rw [if_pos (Or.inr ⟨q1, qv⟩)] at hT
          rw [if_neg (show ¬ (1 : Int32) = 0 from by decide)]
          obtain ⟨l', o', c', e, b⟩ := lit 36 (by omega) n1
          rw [e, Option.bind_some]
          exact fin b (by omega) (by rw [hT, g1])
        · rw [if_neg (show ¬ iL v = (0 : Int64) from by rw [v0]; exact qv)]
          rw [if_neg (by omega)] at hT
          rw [if_pos rfl]
          obtain ⟨l', o', c', e, b⟩ := lit 37 (by omega) n2
          rw [e, Option.bind_some]
          exact fin b (by omega) (by rw [hT, g2])
      · rw [if_neg q1]
        rw [if_neg (by omega)] at hT
        rw [if_pos rfl]
        obtain ⟨l', o', c', e, b⟩ := lit 37 (by omega) n2
        rw [e, Option.bind_some]
        exact fin b (by omega) (by rw [hT, g2])
  · rw [if_neg qb] at hT ⊢
    by_cases q0 : k = 0
    · rw [if_pos q0] at hT ⊢
      obtain ⟨l', o', c', e, b⟩ := lit 38 (by omega) n3
      rw [e, Option.bind_some]
      exact fin b (by omega) (by rw [hT, g3])
    rw [if_neg q0] at hT ⊢
    by_cases q1 : k = 1
    · rw [if_pos q1] at hT ⊢
      rw [hva (by omega)]
      by_cases qv : v = 0
      · rw [if_pos (show iL v = (0 : Int64) from by rw [qv]; rfl)]
        rw [if_neg (by omega)] at hT
        obtain ⟨l', o', c', e, b⟩ := lit 36 (by omega) n1
        rw [e, Option.bind_some]
        exact fin b (by omega) (by rw [hT, g1])
      · rw [if_neg (show ¬ iL v = (0 : Int64) from by rw [v0]; exact qv)]
        rw [if_pos (by have := hk1 q1; omega)] at hT
        obtain ⟨l', o', c', e, b⟩ := lit 37 (by omega) n2
        rw [e, Option.bind_some]
        exact fin b (by omega) (by rw [hT, g2])
    rw [if_neg q1] at hT ⊢
    by_cases q2 : k = 2
    · rw [if_pos q2] at hT ⊢
      rw [hva (by omega), iL_i]
      obtain ⟨l', o', c', e, b⟩ := add_spec (by omega) hB (iI v)
      rw [e, Option.bind_some]
      exact fin b (by simp) (by rw [hT]; rfl)
    rw [if_neg q2] at hT ⊢
    by_cases q7 : k = 7
    · rw [if_neg (by omega), if_pos q7] at hT
      rw [if_pos q7]
      obtain ⟨hX1, hX2⟩ := hX q7
      obtain ⟨l', o', c', e, b⟩ := bcopy_spec (by omega) (by omega) hB hX1
      rw [e, Option.bind_some]
      rw [List.take_of_length_le hX2] at b
      exact fin b (by omega) hT.symm
    rw [if_neg q7, hva q7]
    have whole : (k = 3 ∨ k = 4) → ∃ r : T31, f_Pr_fillPlain_174 (iL v) 4 10600 kc vc (iI le) fl hl 0 ds dp dd bl (iI pr) na ng inf c0 q0_ op vs vl us ul si ws wl ts tl_ es ep ed rs rl bo 0 ho hc bc tl tv tc = some r ∧ FPL (cutT pr T) r := by
      intro q34
      rw [if_pos (by omega)] at hT
      obtain ⟨f64, f4, f8, f32⟩ := hfl q0
      unfold f_Pr_fillPlain_174
      obtain ⟨hl', ho', hc', bl', bo', bc', sz', pt', dc', e, b1, b2⟩ := pwhole_spec (nh := 4) (nb := 10600) (by omega) (by omega) hv0 hv1 fl hH hB ds dp dd
      rw [e, Option.bind_some]
      dsimp only
      have c0_ : closE (v < 0) fl = 0 := by unfold closE; rw [if_pos f64]; split <;> rfl
      have hs : signE (v < 0) fl = if v < 0 then [iI 45] else [] := by unfold signE; rw [if_pos f64, if_pos f4, if_pos f8]
      rw [c0_]
      rw [List.nil_append, hs] at b1
      rw [List.nil_append] at b2
      have hw : wholeD v (fl &&& 32 ≠ 0) = wholeD v False := by unfold wholeD; congr 1; exact propext ⟨fun y => y f32, fun y => y.elim⟩
      rw [hw] at b2
      have hl20 := spl_20 hv0 hv1
      rw [spL_whole, List.length_append] at hl20
      rw [hT, spL_whole]
      exact fp219 p0 p1 le fl kc vc tl tv tc b1 (by split <;> simp) b2 (by omega) na ng inf q0_ op vs us ws ts es ep rs sz' pt' c0 si vl ul wl tl_ ed rl dc'
    by_cases q3 : k = 3
    · rw [if_pos q3]; exact whole (Or.inl q3)
    rw [if_neg q3]
    by_cases q4 : k = 4
    · rw [if_pos q4]; exact whole (Or.inr q4)
    rw [if_neg q4]
    have flo : ∀ s : Nat, s < 2 → (∀ F, shW s u F → F = T) → ∃ r : T31, f_Pr_fillPlain_200 (iL v) s 4 10600 kc vc (iI le) fl hl 0 ds dp dd bl (iI pr) na ng inf c0 q0_ op vs vl us ul si ws wl ts tl_ es ep ed rs rl bo 0 ho hc bc tl tv tc = some r ∧ FPL (cutT pr T) r := by
      intro s hs hF
      unfold f_Pr_fillPlain_200
      rw [hvu, take_spec hs hu0 hu1, Option.bind_some]
      dsimp only
      obtain ⟨x, e, F, hW, b⟩ := write_spec hs hu0 hu1 (n := 10600) (by omega) hB op vs us ws ts es ep rs vl ul wl tl_ ed rl
      rw [e, Option.bind_some]
      rw [List.nil_append] at b
      have := hF F hW
      subst this
      have hl : F.length ≤ 10600 := by
        have h := hT
        rw [if_neg (by omega), if_neg q7] at h
        have := shM_len (by split <;> omega) h
        omega
      have := fp219 p0 p1 le fl kc vc tl tv tc hH (by simp) b hl (iI (biN s u)) (iI (biS s u)) (iI (biI s u)) (iI (biQ s u)) x.1 x.2.1 x.2.2.2.1 x.2.2.2.2.2.1 x.2.2.2.2.2.2.2.1 x.2.2.2.2.2.2.2.2.2.1 x.2.2.2.2.2.2.2.2.2.2.1 x.2.2.2.2.2.2.2.2.2.2.2.2.1 ds dp (iL (biC s u)) s x.2.2.1 x.2.2.2.2.1 x.2.2.2.2.2.2.1 x.2.2.2.2.2.2.2.2.1 x.2.2.2.2.2.2.2.2.2.2.2.1 x.2.2.2.2.2.2.2.2.2.2.2.2.2.1 dd
      rw [List.nil_append] at this
      exact this
    rw [if_neg (by omega), if_neg q7] at hT
    by_cases q5 : k = 5
    · rw [if_pos q5]
      rw [if_neg (by omega), if_neg (by omega)] at hT
      refine flo 1 (by omega) (fun F hF => ?_)
      rw [← shW_mod] at hF
      exact sh_uniq (by omega) (by omega) hF hT
    · rw [if_neg q5]
      rw [if_pos (by omega), if_pos (by omega)] at hT
      exact flo 0 (by omega) (fun F hF => sh_uniq (by omega) hu0 hF hT)
-- UN
set_option maxRecDepth 10000 in
theorem realA_len {s : Nat} {u pr : Int} {T : List Int32} (hT : realA s u pr T) : T.length ≤ 60 := by
  unfold realA at hT
  split at hT
  · rw [hT]; decide
  · split at hT
    · rw [hT]; decide
    · have fl : ∀ m d p, (fracT m d p).length ≤ d + 8 := by
        intro m d p
        unfold fracT pwrE
        have := numE_len (if p < 0 then -p else p) 1
        have h3 : (if p < 0 then [iI 45] else []).length ≤ 1 := by split <;> simp
        simp only [List.length_append, List.length_cons, List.length_nil, hexL_len]
        omega
      rcases hT with ⟨_, rfl⟩ | ⟨_, b, _, hh⟩
      · have := fl 0 (if whP pr then 1 else (max pr 1).toNat) 0
        have hw : (if whP pr then 1 else (max pr 1).toNat) ≤ 13 := by
          split
          · omega
          · rename_i nw
            have : ¬ 13 ≤ pr := fun y => nw (Or.inr y)
            omega
        omega
      · split at hh
        · obtain ⟨n', hn', rfl⟩ := hh
          have := fl (biC s u * 2 ^ (min (53 - (b : Int)) (biQ s u + 1074)).toNat / 16 ^ (13 - n')) n' (biQ s u - min (53 - (b : Int)) (biQ s u + 1074) + 52)
          have := hn'.2.1
          omega
        · rename_i nw
          have h13 : ¬ 13 ≤ pr := fun y => nw (Or.inr y)
          rw [hh]
          unfold rndT
          split
          · have := fl (neV (biC s u * 2 ^ (53 - b)) (52 - 4 * (max pr 1).toNat) / 2) (max pr 1).toNat (biQ s u - (53 - (b : Int)) + 52 + 1)
            omega
          · have := fl (neV (biC s u * 2 ^ (53 - b)) (52 - 4 * (max pr 1).toNat)) (max pr 1).toNat (biQ s u - (53 - (b : Int)) + 52)
            omega
set_option maxRecDepth 10000 in
theorem upE_sp (up : Prop) [Decidable up] (k : Int) {x : Int32} (hx : upB x = x) : upE up (spE k x) = spE k x := by
  unfold upE spE; split
  · rw [List.map_replicate, hx]
  · rfl
set_option maxRecDepth 10000 in
theorem upE_app (up : Prop) [Decidable up] (A B : List Int32) : upE up (A ++ B) = upE up A ++ upE up B := by
  unfold upE; split
  · rw [List.map_append]
  · rfl
set_option maxRecDepth 10000 in
theorem upE_F (E : List Int32) : upE False E = E := by unfold upE; rw [if_neg (fun x => x)]
set_option maxRecDepth 10000 in
theorem upB_lit : upB (iI 32) = iI 32 ∧ upB (iI 48) = iI 48 ∧ upB (iI 41) = iI 41 := by decide +kernel
set_option maxRecDepth 10000 in
theorem upE_layT (w : Int) (H B : List Int32) (cl up zr lf : Prop) [Decidable cl] [Decidable up] [Decidable zr] [Decidable lf] : upE up (layT w H B cl False zr lf) = layT w H B cl up zr lf := by
  obtain ⟨b1, b2, b3⟩ := upB_lit
  have nil : upE up [] = [] := by unfold upE; split <;> rfl
  have c41 : upE up [iI 41] = [iI 41] := by unfold upE; split; rw [List.map_cons, b3]; rfl; rfl
  unfold layT
  rw [upE_F, upE_F]
  simp only [upE_app]
  congr 1
  · split; exact upE_sp _ _ b1; exact nil
  congr 1
  congr 1
  · split; exact upE_sp _ _ b2; exact nil
  congr 1
  congr 1
  · split; exact c41; exact nil
  · split; exact upE_sp _ _ b1; exact nil
set_option maxRecDepth 10000 in
theorem layT_iff {w : Int} {H B : List Int32} {cl cl' up up' zr zr' lf lf' : Prop} [Decidable cl] [Decidable cl'] [Decidable up] [Decidable up'] [Decidable zr] [Decidable zr'] [Decidable lf] [Decidable lf'] (h1 : cl ↔ cl') (h2 : up ↔ up') (h3 : zr ↔ zr') (h4 : lf ↔ lf') : layT w H B cl up zr lf = layT w H B cl' up' zr' lf' := by
  unfold layT upE
  simp only [h1, h2, h3, h4]
set_option maxRecDepth 10000 in
theorem layP_HB (w : Int) (H B : List Int32) (lf : Prop) [Decidable lf] : layP w (H ++ B) lf = layT w H B False False False lf := by
  rw [← layP_T (w := w) (H := H) (B := B) False False lf (fun x => x.1)]
  rw [if_neg (fun x => x), if_neg (fun x => x), List.append_nil, List.nil_append]
set_option maxRecDepth 10000 in
theorem upP_iff {up up' : Prop} [Decidable up] [Decidable up'] (h : up ↔ up') (E : List Int32) : upE up E = upE up' E := by unfold upE; simp only [h]
set_option maxRecDepth 10000 in
theorem inW_73 : ∀ c : Fin 128, (c.val = 100 ∨ c.val = 111 ∨ c.val = 120 ∨ c.val = 88 ∨ c.val = 101 ∨ c.val = 69 ∨ c.val = 102 ∨ c.val = 103 ∨ c.val = 71 ∨ c.val = 97 ∨ c.val = 65 ∨ c.val = 99 ∨ c.val = 67 ∨ c.val = 115 ∨ c.val = 83 ∨ c.val = 98 ∨ c.val = 66) → (inW 73 c.val ↔ (65 ≤ c.val ∧ c.val ≤ 90)) := by decide +kernel
set_option maxRecDepth 10000 in
theorem upV_73 {cv : Int} (h : CVA cv) : inW 73 cv ↔ iI (upV cv) ≠ 0 := by
  obtain ⟨c0, c1⟩ := CVA_b h
  obtain ⟨cN, rfl⟩ : ∃ x : Nat, cv = (x : Int) := ⟨cv.toNat, by omega⟩
  have := inW_73 ⟨cN, by omega⟩ (by unfold CVA at h; simp only; omega)
  simp only at this
  rw [this]
  unfold upV
  by_cases q : 65 ≤ (cN : Int) ∧ (cN : Int) ≤ 90
  · rw [if_pos q]; exact ⟨fun _ => by decide, fun _ => by omega⟩
  · rw [if_neg q]; exact ⟨fun y => absurd (show 65 ≤ (cN : Int) ∧ (cN : Int) ≤ 90 by omega) q, fun y => absurd rfl y⟩
set_option maxRecDepth 10000 in
abbrev FLG (fl : Int32) (fc : Nat → Int32) : Prop := (fl &&& 1 = 0 ↔ fc 0 ≤ 0) ∧ (fl &&& 2 = 0 ↔ fc 1 ≤ 0) ∧ (fl &&& 4 = 0 ↔ fc 2 ≤ 0) ∧ (fl &&& 8 = 0 ↔ fc 3 ≤ 0) ∧ (fl &&& 16 = 0 ↔ fc 4 ≤ 0) ∧ (fl &&& 32 = 0 ↔ fc 5 ≤ 0) ∧ (fl &&& 64 = 0 ↔ fc 6 ≤ 0)
set_option maxRecDepth 10000 in
theorem FLG.f0 {fl : Int32} {fc : Nat → Int32} (h_ : FLG fl fc) : fl &&& 1 = 0 ↔ fc 0 ≤ 0 := h_.1
set_option maxRecDepth 10000 in
theorem FLG.f1 {fl : Int32} {fc : Nat → Int32} (h_ : FLG fl fc) : fl &&& 2 = 0 ↔ fc 1 ≤ 0 := h_.2.1
set_option maxRecDepth 10000 in
theorem FLG.f2 {fl : Int32} {fc : Nat → Int32} (h_ : FLG fl fc) : fl &&& 4 = 0 ↔ fc 2 ≤ 0 := h_.2.2.1
set_option maxRecDepth 10000 in
theorem FLG.f3 {fl : Int32} {fc : Nat → Int32} (h_ : FLG fl fc) : fl &&& 8 = 0 ↔ fc 3 ≤ 0 := h_.2.2.2.1
set_option maxRecDepth 10000 in
theorem FLG.f4 {fl : Int32} {fc : Nat → Int32} (h_ : FLG fl fc) : fl &&& 16 = 0 ↔ fc 4 ≤ 0 := h_.2.2.2.2.1
set_option maxRecDepth 10000 in
theorem FLG.f5 {fl : Int32} {fc : Nat → Int32} (h_ : FLG fl fc) : fl &&& 32 = 0 ↔ fc 5 ≤ 0 := h_.2.2.2.2.2.1
set_option maxRecDepth 10000 in
theorem FLG.f6 {fl : Int32} {fc : Nat → Int32} (h_ : FLG fl fc) : fl &&& 64 = 0 ↔ fc 6 ≤ 0 := h_.2.2.2.2.2.2
set_option maxRecDepth 10000 in
abbrev ADM (cv : Int) (fc : Nat → Int32) : Prop := (¬ (¬ fc 4 ≤ 0 ∧ ¬ fc 0 ≤ 0)) ∧ (flLe cv = 103 → fc 1 ≤ 0) ∧ (inW 63 cv → fc 6 ≤ 0 ∧ fc 2 ≤ 0 ∧ fc 3 ≤ 0 ∧ fc 5 ≤ 0) ∧ (inW 64 cv → fc 4 ≤ 0)
set_option maxRecDepth 10000 in
theorem ADM.zl {cv : Int} {fc : Nat → Int32} (h_ : ADM cv fc) : ¬ (¬ fc 4 ≤ 0 ∧ ¬ fc 0 ≤ 0) := h_.1
set_option maxRecDepth 10000 in
theorem ADM.g1 {cv : Int} {fc : Nat → Int32} (h_ : ADM cv fc) : flLe cv = 103 → fc 1 ≤ 0 := h_.2.1
set_option maxRecDepth 10000 in
theorem ADM.s {cv : Int} {fc : Nat → Int32} (h_ : ADM cv fc) : inW 63 cv → fc 6 ≤ 0 ∧ fc 2 ≤ 0 ∧ fc 3 ≤ 0 ∧ fc 5 ≤ 0 := h_.2.2.1
set_option maxRecDepth 10000 in
theorem ADM.c {cv : Int} {fc : Nat → Int32} (h_ : ADM cv fc) : inW 64 cv → fc 4 ≤ 0 := h_.2.2.2
set_option maxRecDepth 10000 in
theorem sgM_C {ng : Prop} [Decidable ng] {n no : Int32} (hn : n = 0 ↔ ¬ ng) (h0 : no = 0) {fl : Int32} {fc : Nat → Int32} (hF : FLG fl fc) : sgM n no fc = signE ng fl := by
  unfold sgM signE
  simp only [hF.f6, hF.f2, hF.f3, hn, h0]
  by_cases q : ng
  · rw [if_pos q, if_neg (by simpa using q)]
  · rw [if_neg q, if_pos q, if_pos trivial]
set_option maxRecDepth 10000 in
theorem rdM_C {ng : Prop} [Decidable ng] {n : Int32} (hn : n = 0 ↔ ¬ ng) {fl : Int32} {fc : Nat → Int32} (hF : FLG fl fc) : closE ng fl ≠ 0 ↔ rdM n fc := by
  unfold closE rdM
  simp only [hF.f6, ne_eq, hn]
  by_cases q : ng
  · rw [if_pos q]
    by_cases q2 : fc 6 ≤ 0
    · rw [if_pos q2]; simp [q2]
    · rw [if_neg q2]; simp [q, q2]
  · rw [if_neg q]; simp [q]
