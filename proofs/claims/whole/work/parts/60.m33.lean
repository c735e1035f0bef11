-- TD
set_option maxRecDepth 10000 in
abbrev T47 := Int32 × Int32 × Int32 × Int32 × Int32 × Int32 × Int32 × (Nat → Int32) × Int32 × Int32 × Int32 × Int32 × Int32 × Int32 × Int32 × Int32 × Int32 × Int32 × (Nat → Int32) × (Nat → Int64) × Int32 × (Nat → Int32) × Int32 × (Nat → Int32) × Int32 × Int32 × (Nat → Int32) × Int32 × Int32 × (Nat → Int32) × Int32 × Int32 × Int32 × (Nat → Int32) × Int32 × Int32 × Int32 × (Nat → Int32) × Int32 × Int32 × Int32 × (Nat → Int32) × Int32 × Int32 × (Nat → Int32) × (Nat → Int32) × Nat
set_option maxRecDepth 10000 in
abbrev π47 (r : T47) : Nat := r.2.2.2.2.2.2.2.2.2.2.2.2.2.2.2.2.2.2.2.2.2.2.2.2.2.2.2.2.2.2.2.2.2.2.2.2.2.2.2.2.2.2.2.2.2.2
set_option maxRecDepth 10000 in
def FMR (r : T47) (co pl : Int) (R : List Int32) : Prop := r.2.2.2.2.2.2.2.2.2.2.2.2.2.2.2.2.2.2.2.2.2.2.2.2.2.2.2.2.2.2.2.2.2.2.2.2.2.2.2.2.2.2.1 = iI co ∧ r.2.2.2.2.2.2.2.2.2.2.2.2.2.2.2.2.2.2.2.2.2.2.2.2.2.2.2.2.2.2.2.2.2.2.2.2.2.2.2.2.2.2.2.1 = iI pl ∧ (co = 0 → R.length ≤ 32768 ∧ r.1 = iI R.length ∧ r.2.2.2.2.1 = iI R.length ∧ (∀ x ∈ R, sb x = x) ∧ ∀ j x, R[j]? = some x → r.2.2.2.2.2.2.2.2.2.2.2.2.2.2.2.2.2.2.2.2.2.2.2.2.2.2.2.2.2.2.2.2.2.2.2.2.2.2.2.2.2.2.2.2.1 j = x) ∧ (co ≠ 0 → r.1 = 0 ∧ r.2.2.2.2.1 = 0)
set_option maxRecDepth 10000 in
theorem mfmt_loop {X : List Int32} {ec : Nat → Int32} (hec : TP (iI X.length) ec X) (hX1 : X.length ≤ 1000) {A : List AgT} (hAl : A.length ≤ 16) {km : Nat → Int32} {vm : Nat → Int64} {tlm : Nat → Int32} {tx : Nat → Nat → Int32} (hkm : ∀ i a, A[i]? = some a → ∃ k : Int, 0 ≤ k ∧ k ≤ 7 ∧ a.1 = iI k ∧ km i = iI k) (hvm : ∀ i a, A[i]? = some a → a.1 ≠ iI 7 → vm i = a.2.1) (htx : ∀ i a, A[i]? = some a → a.1 = iI 7 → TP (tlm i) (tx i) a.2.2 ∧ a.2.2.length ≤ 200) (th lm : Nat → Int32) (f : Nat) :
    ∀ (r n p D : Nat) (nx sm : Int) (E : List Int32) (h : Int32) (c : Nat → Int32) (bl : Nat) (w pr cv ag gv ix bi le us xn hn lo xp dn dp un_ up_ lp hp uu crn crp bo ng no : Int32) (fl xd hd ld dd ud sp crd yb rc : Nat → Int32) (lc : Nat → Int64), p + r = X.length → r < n → X.length < D + p → (dirs X D p).2 = none → fB X (dirs X D p).1 = none → 0 ≤ nx → nx ≤ p → -1 ≤ sm → sm ≤ 10000 → E.length ≤ 32768 → MB h c bl E → bl ≤ 400000 →
    OUT π47 (f_Md_format_91 n th f lm (iI p) (iI X.length) h 0 ec w pr fl cv ag gv (iI nx) (iI A.length) ix (iI sm) km vm bi le us xn xd lc hn hd lo ld xp dn dd dp un_ ud up_ lp hp sp tlm uu crn crp crd bo ng no yb 0 (-1) rc c bl tx) bl 70000 (fun r => ∃ co pl R, RF X A (dirs X D p).1 p nx sm E co pl R ∧ FMR r co pl R) := by
  intro r
  induction r using Nat.strongRecOn with
  | _ r ih =>
  intro n p D nx sm E h c bl w pr cv ag gv ix bi le us xn hn lo xp dn dp un_ up_ lp hp uu crn crp bo ng no fl xd hd ld dd ud sp crd yb rc lc hpr hrn hD hdn hfb n0 n1 s0 s1 hE hM hbl
  obtain ⟨n, rfl⟩ : ∃ x, n = x + 1 := ⟨n - 1, by omega⟩
  unfold f_Md_format_91
  by_cases q : p < X.length
  · have hok : gx_ok (iI (p : Int)) 1000 = true := by simp (disch := omega) only [iI_lit, iL_lit, iI_add, iI_sub, iI_mul, iI_neg, iL_add, iL_sub, iL_mul, iL_neg, iI_lt, iI_le, iI_eq, iL_lt, iL_le, iL_eqS, iI_c, iI_ok, iI_l, iL_i, iI_low, l_ushrI, l_shlI, l_shrI, i_shlI, i_shrI, i_ushrI, iI_div, iL_div, Int.toNat_natCast, Int.reduceToNat, iI_ofNat]; omega
    obtain ⟨a, a0, a1, ea, eh⟩ := fm_at hec q
    have h37 : (iI a = (37 : Int32)) = (hq X p = 37) := by
      rw [show (37 : Int32) = iI 37 from rfl, iI_eq (by omega) (by omega) (by omega) (by omega), eh]
      exact propext (by split <;> omega)
    rw [if_neg (show ¬ iI (X.length : Int) ≤ iI (p : Int) from by simp (disch := omega) only [iI_lit, iL_lit, iI_add, iI_sub, iI_mul, iI_neg, iL_add, iL_sub, iL_mul, iL_neg, iI_lt, iI_le, iI_eq, iL_lt, iL_le, iL_eqS, iI_c, iI_ok, iI_l, iL_i, iI_low, l_ushrI, l_shlI, l_shrI, i_shlI, i_shrI, i_ushrI, iI_div, iL_div, Int.toNat_natCast, Int.reduceToNat, iI_ofNat]; omega)]
    simp only [if_pos hok]
    rw [iI_c (by omega) (by omega), Int.toNat_natCast, ea]
    simp only [h37]
    by_cases q2 : hq X p = 37
    · simp only [if_pos q2]
      obtain ⟨D, rfl⟩ : ∃ x, D = x + 1 := ⟨D - 1, by omega⟩
      have hs := sK_at q2
      unfold dirs at hdn hfb ⊢
      rw [hs, if_pos q] at hdn hfb ⊢
      by_cases q3 : DOK X (p + 1)
      · rw [if_pos q3] at hdn hfb ⊢
        dsimp only at hdn hfb ⊢
        have hin := DOK_in q3
        have hP := dP_b (X := X) (p := p + 1) (by omega)
        have hnb : ¬ BARX X p := by intro y; unfold fB at hfb; rw [if_pos y] at hfb; cases hfb
        have hfb' : fB X (dirs X D (dP3 X (p + 1) + 1)).1 = none := by unfold fB at hfb; rw [if_neg hnb] at hfb; exact hfb
        obtain ⟨fl', hfl', e⟩ := (mdir_spec hec hX1 (by omega) (p := p + 1) (by omega) w pr fl ix ag gv cv).1 q3
        have hcb := CNV_b q3.2.2.2.2
        obtain ⟨cN, hcN⟩ : ∃ x : Nat, dCv X (p + 1) = (x : Int) := ⟨(dCv X (p + 1)).toNat, by omega⟩
        have w62 := inW_62 ⟨cN, by omega⟩
        simp only at w62
        rw [← hcN] at w62
        have hww := dWd_b X (p + 1)
        have hw9 := q3.2.1
        have hct : ∀ x, x < 7 → 0 ≤ dCt X (p + 1) x ∧ dCt X (p + 1) x ≤ 100000 := fun x _ => dCt_b (by omega) (p + 1) x
        have hdrop : (X.take p).drop p = [] := List.drop_of_length_le (by rw [List.length_take]; omega)
        rw [e1N, e, Option.bind_some]
        dsimp only
        rw [one_spec (o := 62) (by omega) (by omega) hcb.2, Option.bind_some]
        -- the next round
        have next : ∀ (Q : List Int32) (nx' sm' : Int) (h' : Int32) (c' : Nat → Int32) (bl' : Nat) (bi le us xn hn lo xp dn dp un_ up_ lp hp uu crn crp bo ng no : Int32) (xd hd ld dd ud sp crd yb : Nat → Int32) (lc : Nat → Int64), 0 ≤ nx' → nx' ≤ (p : Int) + 1 → -1 ≤ sm' → sm' ≤ 10000 → MB h' c' bl' (E ++ Q) → (E ++ Q).length < 70000 → bl' ≤ 400000 → OUT π47 (if h' ≤ 32768 then (f_Md_format_91 n th f lm (iI ((dP3 X (p + 1) + 1 : Nat) : Int)) (iI X.length) h' 0 ec (iI (dWd X (p + 1))) (iI (dPr X (p + 1))) fl' (iI (dCv X (p + 1))) (iI (dAg X (p + 1))) (iI (dGv X (p + 1))) (iI nx') (iI A.length) (iI (dIm X (p + 1))) (iI sm') km vm bi le us xn xd lc hn hd lo ld xp dn dd dp un_ ud up_ lp hp sp tlm uu crn crp crd bo ng no yb 0 (-1) rc c' bl' tx) else some (0, (iI ((dP3 X (p + 1) + 1 : Nat) : Int)), (iI X.length), h', 0, (iI (dWd X (p + 1))), (iI (dPr X (p + 1))), fl', (iI (dCv X (p + 1))), (iI (dAg X (p + 1))), (iI (dGv X (p + 1))), (iI nx'), (iI (dIm X (p + 1))), (iI sm'), bi, le, us, xn, xd, lc, hn, hd, lo, ld, xp, dn, dd, dp, un_, ud, up_, lp, hp, sp, uu, crn, crp, crd, bo, ng, no, yb, 5, (-1), rc, c', bl')) bl' 70000 (fun r => ∃ co pl R, STP E Q (fun E' => RF X A (dirs X D (dP3 X (p + 1) + 1)).1 (dP3 X (p + 1) + 1) nx' sm' E' co pl R) co pl ∧ FMR r co pl R) := by
          intro Q nx' sm' h' c' bl' bi le us xn hn lo xp dn dp un_ up_ lp hp uu crn crp bo ng no xd hd ld dd ud sp crd yb lc h1 h2 h3 h4 hM' hl7 hb'
          unfold STP
          by_cases z : 32768 < (E ++ Q).length
          · rw [if_neg (show ¬ h' ≤ 32768 from by rw [hM'.1]; simp (disch := omega) only [iI_lit, iL_lit, iI_add, iI_sub, iI_mul, iI_neg, iL_add, iL_sub, iL_mul, iL_neg, iI_lt, iI_le, iI_eq, iL_lt, iL_le, iL_eqS, iI_c, iI_ok, iI_l, iL_i, iI_low, l_ushrI, l_shlI, l_shrI, i_shlI, i_shrI, i_ushrI, iI_div, iL_div, Int.toNat_natCast, Int.reduceToNat, iI_ofNat]; omega)]
            refine ⟨_, rfl, Nat.le_refl _, Nat.le_max_left _ _, 5, -1, [], ?_, rfl, rfl, fun y => by omega, fun _ => ⟨rfl, rfl⟩⟩
            rw [if_pos z]; exact ⟨rfl, rfl⟩
          · rw [if_pos (show h' ≤ 32768 from by rw [hM'.1]; simp (disch := omega) only [iI_lit, iL_lit, iI_add, iI_sub, iI_mul, iI_neg, iL_add, iL_sub, iL_mul, iL_neg, iI_lt, iI_le, iI_eq, iL_lt, iL_le, iL_eqS, iI_c, iI_ok, iI_l, iL_i, iI_low, l_ushrI, l_shlI, l_shrI, i_shlI, i_shrI, i_ushrI, iI_div, iL_div, Int.toNat_natCast, Int.reduceToNat, iI_ofNat]; omega)]
            refine OUT_imp (ih (X.length - (dP3 X (p + 1) + 1)) (by omega) n (dP3 X (p + 1) + 1) D nx' sm' (E ++ Q) h' c' bl' _ _ _ _ _ _ bi le us xn hn lo xp dn dp un_ up_ lp hp uu crn crp bo ng no _ xd hd ld dd ud sp crd yb rc lc (by omega) (by omega) (by omega) hdn hfb' h1 (by omega) h3 h4 (by omega) hM' hb') (fun r hr => ?_)
            obtain ⟨co, pl, R, g1, g2⟩ := hr
            exact ⟨co, pl, R, by rw [if_neg z]; exact g1, g2⟩
        by_cases q62 : dCv X (p + 1) = 37 ∨ dCv X (p + 1) = 110
        · rw [if_pos (w62.mpr (by omega)), if_neg (show ¬ (1 : Int32) = 0 from by decide)]
          unfold f_Md_format_180 f_Md_format_222
          rw [if_pos rfl, one_spec (o := 62) (by omega) (by omega) hcb.2, Option.bind_some, if_pos (w62.mpr (by omega)), if_neg (show ¬ (1 : Int32) = 0 from by decide)]
          unfold RF
          simp only [hdrop, List.append_nil, if_neg (show ¬ 32768 < E.length by omega)]
          by_cases q110 : dCv X (p + 1) = 110
          · simp only [if_pos q110]
            have hsn : OUT (fun r : Int32 × (Nat → Int32) × Nat => r.2.2) (f_Md_simple (iI (dCv X (p + 1))) h (iI (dWd X (p + 1))) fl' c bl) bl 70000 (fun r => MB r.1 r.2.1 r.2.2 (E ++ [iI 10])) := by
              rw [show iI (dCv X (p + 1)) = 110 from by rw [q110]; rfl]
              exact simple_n (by omega) (by omega) _ _ hM hbl
            refine OUT_bind hsn (fun x hx g1 g2 => ?_)
            exact next [iI 10] nx sm x.1 x.2.1 x.2.2 bi le us xn hn lo xp dn dp un_ up_ lp hp uu crn crp bo ng no xd hd ld dd ud sp crd yb lc n0 (by omega) s0 s1 hx (by simp; omega) (by omega)
          · have q37 : dCv X (p + 1) = 37 := by omega
            simp only [if_neg q110, if_pos q37]
            have hsn : OUT (fun r : Int32 × (Nat → Int32) × Nat => r.2.2) (f_Md_simple (iI (dCv X (p + 1))) h (iI (dWd X (p + 1))) fl' c bl) bl 70000 (fun r => MB r.1 r.2.1 r.2.2 (E ++ layP (dWd X (p + 1)) [iI 37] (¬ fl' 0 ≤ 0))) := by
              rw [show iI (dCv X (p + 1)) = 37 from by rw [q37]; rfl]
              exact simple_p (by omega) hww.1 hw9 (by omega) fl' hM hbl
            refine OUT_bind hsn (fun x hx g1 g2 => ?_)
            have hlp : (layP (dWd X (p + 1)) [iI 37] (¬ fl' 0 ≤ 0)).length ≤ 10001 := by
              unfold layP
              split <;> (rw [List.length_append, spE_len]; simp; omega)
            have hq0 : layP (dWd X (p + 1)) [iI 37] (¬ fl' 0 ≤ 0) = layP (dWd X (p + 1)) [iI 37] (¬ iI (dCt X (p + 1) 0) ≤ 0) := by rw [hfl' 0 (by omega)]
            rw [← hq0]
            exact next (layP (dWd X (p + 1)) [iI 37] (¬ fl' 0 ≤ 0)) nx sm x.1 x.2.1 x.2.2 bi le us xn hn lo xp dn dp un_ up_ lp hp uu crn crp bo ng no xd hd ld dd ud sp crd yb lc n0 (by omega) s0 s1 hx (by rw [List.length_append]; omega) (by omega)
        · have n62 : ¬ inW 62 (dCv X (p + 1)) := fun y => q62 (by have := w62.mp y; omega)
          rw [if_neg n62, if_pos rfl]
          have hcva := CNV_CVA q3.2.2.2.2 (by omega) (by omega)
          obtain ⟨t1, t2, t3, t4⟩ := tk_b (X := X) (k := p) q n0 s0 s1 (b := (p : Int)) n1 (by omega)
          unfold f_Md_unfit
          rw [taken_spec q n0 (by omega) s0 s1 hAl, Option.bind_some]
          dsimp only
          unfold RF
          simp only [hdrop, List.append_nil, if_neg (show ¬ 32768 < E.length by omega), if_neg (show ¬ dCv X (p + 1) = 110 by omega), if_neg (show ¬ dCv X (p + 1) = 37 by omega)]
          by_cases qa : 0 ≤ tkA X p nx sm ∧ tkA X p nx sm < A.length
          · obtain ⟨i, hi⟩ : ∃ i : Nat, tkA X p nx sm = (i : Int) := ⟨(tkA X p nx sm).toNat, by omega⟩
            rw [if_pos qa, hi, if_pos (show (0 : Int32) ≤ iI (i : Int) from by simp (disch := omega) only [iI_lit, iL_lit, iI_add, iI_sub, iI_mul, iI_neg, iL_add, iL_sub, iL_mul, iL_neg, iI_lt, iI_le, iI_eq, iL_lt, iL_le, iL_eqS, iI_c, iI_ok, iI_l, iL_i, iI_low, l_ushrI, l_shlI, l_shrI, i_shlI, i_shrI, i_ushrI, iI_div, iL_div, Int.toNat_natCast, Int.reduceToNat, iI_ofNat]; omega)]
            rw [hi] at qa
            have hiA : i < A.length := by omega
            have hg := List.getElem?_eq_getElem hiA
            obtain ⟨kd, k0, k7, hk1, hk2⟩ := hkm i _ hg
            obtain ⟨v, u, v0, v1, u0, u1, hv, hvu⟩ := long_su (vm i)
            rw [mfits_spec hcva k0 k7 v0 v1 (a := i) (by omega) hk2 hv, Option.bind_some]
            simp only [if_neg (not_not_intro qa), Int.toNat_natCast]
            have hagd : AGD A[i] kd v u := ⟨k0, k7, hk1, fun y => by rw [← hv, hvm i _ hg (by rw [hk1]; intro z; rw [iI_eq (by omega) (by omega) (by omega) (by omega)] at z; exact y z)], v0, v1, u0, u1, hvu⟩
            have hin' : ∀ P : (Int → Int → Int → AgT → Prop), P kd v u A[i] → A[i]? = some A[i] := fun _ _ => hg
            by_cases qf : FITC (dCv X (p + 1)) kd v
            · rw [if_pos qf, if_neg (show ¬ (1 : Int32) = 0 from by decide), Option.bind_some]
              unfold f_Md_format_180 f_Md_format_222
              rw [if_pos rfl, one_spec (o := 62) (by omega) (by omega) hcb.2, Option.bind_some, if_neg n62, if_pos rfl]
              have hadm := ADM_of hcva hnb hfl' hct
              refine OUT_imp (OUT_bind (shown_spec (L := 70000) (by omega) hcva (FITC_FIT qf) k0 k7 v0 v1 u0 u1 hvu q3.2.2.1 q3.2.2.2.1 hww.1 hw9 (by omega) hadm.zl hadm.g1 (a := i) (by omega) hk2 hv (fun y => htx i _ hg (by rw [hk1, y])) lc bi le us xn hn lo xp dn dp un_ up_ lp hp uu crn crp bo ng no xd hd ld dd ud sp crd yb hM hbl) (fun x hx g1 g2 => ?_)) (fun r hr => hr)
              obtain ⟨Q, hQ, hMx⟩ := hx
              have hMx' : MB x.1 x.2.2.2.2.2.2.2.2.2.2.2.2.2.2.2.2.2.2.2.2.2.2.2.2.2.2.2.2.2.1 x.2.2.2.2.2.2.2.2.2.2.2.2.2.2.2.2.2.2.2.2.2.2.2.2.2.2.2.2.2.2 (E ++ Q) := hMx
              have hl7 : (E ++ Q).length < 70000 := by
                have := DQ_len hcva qf k0 k7 v0 v1 u0 u1 q3.2.2.1 q3.2.2.2.1 hww.1 hw9 (fun y => (htx i _ hg (by rw [hk1, y])).2) hQ
                rw [List.length_append]; omega
              have := next Q (tkN X p nx) (tkA X p nx sm) x.1 x.2.2.2.2.2.2.2.2.2.2.2.2.2.2.2.2.2.2.2.2.2.2.2.2.2.2.2.2.2.1 x.2.2.2.2.2.2.2.2.2.2.2.2.2.2.2.2.2.2.2.2.2.2.2.2.2.2.2.2.2.2 x.2.1 x.2.2.1 x.2.2.2.1 x.2.2.2.2.1 x.2.2.2.2.2.2.2.1 x.2.2.2.2.2.2.2.2.2.1 x.2.2.2.2.2.2.2.2.2.2.2.1 x.2.2.2.2.2.2.2.2.2.2.2.2.1 x.2.2.2.2.2.2.2.2.2.2.2.2.2.2.1 x.2.2.2.2.2.2.2.2.2.2.2.2.2.2.2.1 x.2.2.2.2.2.2.2.2.2.2.2.2.2.2.2.2.2.1 x.2.2.2.2.2.2.2.2.2.2.2.2.2.2.2.2.2.2.1 x.2.2.2.2.2.2.2.2.2.2.2.2.2.2.2.2.2.2.2.1 x.2.2.2.2.2.2.2.2.2.2.2.2.2.2.2.2.2.2.2.2.2.1 x.2.2.2.2.2.2.2.2.2.2.2.2.2.2.2.2.2.2.2.2.2.2.1 x.2.2.2.2.2.2.2.2.2.2.2.2.2.2.2.2.2.2.2.2.2.2.2.1 x.2.2.2.2.2.2.2.2.2.2.2.2.2.2.2.2.2.2.2.2.2.2.2.2.2.1 x.2.2.2.2.2.2.2.2.2.2.2.2.2.2.2.2.2.2.2.2.2.2.2.2.2.2.1 x.2.2.2.2.2.2.2.2.2.2.2.2.2.2.2.2.2.2.2.2.2.2.2.2.2.2.2.1 x.2.2.2.2.2.1 x.2.2.2.2.2.2.2.2.1 x.2.2.2.2.2.2.2.2.2.2.1 x.2.2.2.2.2.2.2.2.2.2.2.2.2.1 x.2.2.2.2.2.2.2.2.2.2.2.2.2.2.2.2.1 x.2.2.2.2.2.2.2.2.2.2.2.2.2.2.2.2.2.2.2.2.1 x.2.2.2.2.2.2.2.2.2.2.2.2.2.2.2.2.2.2.2.2.2.2.2.2.1 x.2.2.2.2.2.2.2.2.2.2.2.2.2.2.2.2.2.2.2.2.2.2.2.2.2.2.2.2.1 x.2.2.2.2.2.2.1 t3 (by omega) t1 t2 hMx' hl7 (by omega)
              rw [hi] at this
              refine OUT_imp this (fun r hr => ?_)
              obtain ⟨co, pl, R, g1, g2⟩ := hr
              exact ⟨co, pl, R, ⟨kd, v, u, A[i], hg, hagd, by rw [if_neg (not_not_intro qf)]; exact ⟨fl', Q, hfl', hQ, g1⟩⟩, g2⟩
            · rw [if_neg qf, if_pos rfl, Option.bind_some]
              unfold f_Md_format_180
              rw [if_neg (show ¬ (4 : Int32) = 0 from by decide)]
              refine ⟨_, rfl, Nat.le_refl _, Nat.le_max_left _ _, 4, (p : Int), [], ⟨kd, v, u, A[i], hg, hagd, by rw [if_pos qf]; exact ⟨rfl, rfl⟩⟩, rfl, rfl, fun y => by omega, fun _ => ⟨rfl, rfl⟩⟩
          · rw [if_neg qa, if_neg (show ¬ (0 : Int32) ≤ iI (-1) from by decide), Option.bind_some]
            simp only [if_pos qa]
            unfold f_Md_format_180
            rw [if_neg (show ¬ (3 : Int32) = 0 from by decide)]
            exact ⟨_, rfl, Nat.le_refl _, Nat.le_max_left _ _, 3, (p : Int), [], ⟨rfl, rfl⟩, rfl, rfl, fun y => by omega, fun _ => ⟨rfl, rfl⟩⟩
      · rw [if_neg q3] at hdn; cases hdn
    · simp only [if_neg q2]
      have hsn := sK_no q q2
      have hde := dirs_eq hsn D
      have hLk : ∀ k t, (dirs X D p).1 = k :: t → p < k ∧ k ≤ X.length := by
        intro k t hkt
        cases D with
        | zero => simp [dirs] at hkt
        | succ D =>
          rw [hde] at hkt
          unfold dirs at hkt
          have hb := sK_b (X := X) (p := p + 1) (by omega)
          split at hkt
          · split at hkt
            · simp only [List.cons.injEq] at hkt; omega
            · simp at hkt
          · simp at hkt
      have hxp : iI a = X[p] := by rw [← ea]; exact hec.2.1 p _ (List.getElem?_eq_getElem q)
      have hsx : sb (iI a) = X[p] := by rw [hxp]; exact hec.2.2 _ (List.getElem_mem q)
      refine OUT_bind (OUT_put hM (by omega) (by omega) hbl (iI a)) (fun x hx g1 g2 => ?_)
      rw [hsx] at hx
      unfold f_Md_format_222
      by_cases z : 32768 < (E ++ [X[p]]).length
      · rw [if_neg (show ¬ x.1 ≤ 32768 from by rw [hx.1]; have := hx.2.1; simp only [List.length_append, List.length_singleton] at z ⊢; simp (disch := omega) only [iI_lit, iL_lit, iI_add, iI_sub, iI_mul, iI_neg, iL_add, iL_sub, iL_mul, iL_neg, iI_lt, iI_le, iI_eq, iL_lt, iL_le, iL_eqS, iI_c, iI_ok, iI_l, iL_i, iI_low, l_ushrI, l_shlI, l_shrI, i_shlI, i_shrI, i_ushrI, iI_div, iL_div, Int.toNat_natCast, Int.reduceToNat, iI_ofNat]; omega)]
        exact ⟨_, rfl, Nat.le_refl _, Nat.le_max_left _ _, 5, -1, [], RF_over q hLk z, rfl, rfl, fun y => by omega, fun _ => ⟨rfl, rfl⟩⟩
      · rw [if_pos (show x.1 ≤ 32768 from by rw [hx.1]; simp only [List.length_append, List.length_singleton] at z ⊢; simp (disch := omega) only [iI_lit, iL_lit, iI_add, iI_sub, iI_mul, iI_neg, iL_add, iL_sub, iL_mul, iL_neg, iI_lt, iI_le, iI_eq, iL_lt, iL_le, iL_eqS, iI_c, iI_ok, iI_l, iL_i, iI_low, l_ushrI, l_shlI, l_shrI, i_shlI, i_shrI, i_ushrI, iI_div, iL_div, Int.toNat_natCast, Int.reduceToNat, iI_ofNat]; omega), e1N]
        refine OUT_imp (ih (r - 1) (by omega) n (p + 1) D nx sm (E ++ [X[p]]) x.1 x.2.1 x.2.2 w pr cv ag gv ix bi le us xn hn lo xp dn dp un_ up_ lp hp uu crn crp bo ng no fl xd hd ld dd ud sp crd yb rc lc (by omega) (by omega) (by omega) (by rw [← hde]; exact hdn) (by rw [← hde]; exact hfb) n0 (by omega) s0 s1 (by omega) hx (by omega)) (fun r hr => ?_)
        obtain ⟨co, pl, R, g1, g2⟩ := hr
        rw [← hde] at g1
        exact ⟨co, pl, R, RF_lit q hLk g1, g2⟩
  · rw [if_pos (show iI (X.length : Int) ≤ iI (p : Int) from by simp (disch := omega) only [iI_lit, iL_lit, iI_add, iI_sub, iI_mul, iI_neg, iL_add, iL_sub, iL_mul, iL_neg, iI_lt, iI_le, iI_eq, iL_lt, iL_le, iL_eqS, iI_c, iI_ok, iI_l, iL_i, iI_low, l_ushrI, l_shlI, l_shrI, i_shlI, i_shrI, i_ushrI, iI_div, iL_div, Int.toNat_natCast, Int.reduceToNat, iI_ofNat]; omega)]
    obtain ⟨rc', e, hr'⟩ := give_spec hM hE hbl 0 rc
    rw [e, Option.bind_some]
    have he : (dirs X D p).1 = [] := by
      cases D with
      | zero => rfl
      | succ D =>
        unfold dirs
        have := sK_b (X := X) (p := p) (by omega)
        rw [if_neg (by omega)]
    rw [he]
    refine ⟨_, rfl, Nat.le_refl _, Nat.le_max_left _ _, 0, -1, E, ?_, rfl, rfl, fun _ => ⟨hE, rfl, rfl, hM.2.2.2.2, hr'⟩, fun y => absurd rfl y⟩
    unfold RF
    rw [List.drop_of_length_le (by omega), List.append_nil, if_pos hE]
    exact ⟨rfl, rfl, rfl⟩
-- TE
set_option maxRecDepth 10000 in
theorem mformat_ok {X : List Int32} {ec : Nat → Int32} (hec : TP (iI X.length) ec X) (hO : FOK X) {A : List AgT} (hAl : A.length ≤ 16) {km : Nat → Int32} {vm : Nat → Int64} {tlm : Nat → Int32} {tx : Nat → Nat → Int32} (hkm : ∀ i a, A[i]? = some a → ∃ k : Int, 0 ≤ k ∧ k ≤ 7 ∧ a.1 = iI k ∧ km i = iI k) (hvm : ∀ i a, A[i]? = some a → a.1 ≠ iI 7 → vm i = a.2.1) (htx : ∀ i a, A[i]? = some a → a.1 = iI 7 → TP (tlm i) (tx i) a.2.2 ∧ a.2.2.length ≤ 200) {th lm : Nat → Int32} {f : Nat} (hf : f < 8) (hth : th f = 1) (hlm : lm f = iI X.length) (c : Nat → Int32) {bl : Nat} (hb0 : 0 < bl) (hbl : bl ≤ 400000) (p0 fe h0 ln nx bf co0 pl0 : Int32) (w pr cv ag gv ix bi le us xn hn lo xp dn dp un_ up_ lp hp uu crn crp bo ng no : Int32) (fl xd hd ld dd ud sp crd yb rc : Nat → Int32) (lc : Nat → Int64) :
    OUT π47 (f_Md_format (iI f) th f lm p0 fe h0 ln ec w pr fl cv ag gv nx (iI A.length) ix bf km vm bi le us xn xd lc hn hd lo ld xp dn dd dp un_ ud up_ lp hp sp tlm uu crn crp crd bo ng no yb co0 pl0 rc c bl tx) bl 70000 (fun r => ∃ co pl R, RF X A (dirL X).1 0 0 (-1) [] co pl R ∧ FMR r co pl R) := by
  have hok : gx_ok (iI (f : Int)) 8 = true := by simp (disch := omega) only [iI_lit, iL_lit, iI_add, iI_sub, iI_mul, iI_neg, iL_add, iL_sub, iL_mul, iL_neg, iI_lt, iI_le, iI_eq, iL_lt, iL_le, iL_eqS, iI_c, iI_ok, iI_l, iL_i, iI_low, l_ushrI, l_shlI, l_shrI, i_shlI, i_shrI, i_ushrI, iI_div, iL_div, Int.toNat_natCast, Int.reduceToNat, iI_ofNat]; omega
  unfold f_Md_format
  apply OUT_mo
  rw [if_neg (show ¬ iI (f : Int) < 0 from by simp (disch := omega) only [iI_lit, iL_lit, iI_add, iI_sub, iI_mul, iI_neg, iL_add, iL_sub, iL_mul, iL_neg, iI_lt, iI_le, iI_eq, iL_lt, iL_le, iL_eqS, iI_c, iI_ok, iI_l, iL_i, iI_low, l_ushrI, l_shlI, l_shrI, i_shlI, i_shrI, i_ushrI, iI_div, iL_div, Int.toNat_natCast, Int.reduceToNat, iI_ofNat]; omega), if_neg (show ¬ (7 : Int32) < iI (f : Int) from by simp (disch := omega) only [iI_lit, iL_lit, iI_add, iI_sub, iI_mul, iI_neg, iL_add, iL_sub, iL_mul, iL_neg, iI_lt, iI_le, iI_eq, iL_lt, iL_le, iL_eqS, iI_c, iI_ok, iI_l, iL_i, iI_low, l_ushrI, l_shlI, l_shrI, i_shlI, i_shrI, i_ushrI, iI_div, iL_div, Int.toNat_natCast, Int.reduceToNat, iI_ofNat]; omega)]
  unfold f_Md_format_16
  have g1 : f_Md_good (1 : Int32) (1 : Int32) co0 = some (1, 0) := rfl
  rw [g1, Option.bind_some, if_neg (show ¬ (1 : Int32) = 0 from by decide)]
  simp only [if_pos hok]
  rw [iI_c (by omega) (by omega), Int.toNat_natCast, hth]
  have g2 : f_Md_good (1 : Int32) (2 : Int32) 0 = some (1, 0) := rfl
  rw [g2, Option.bind_some, if_neg (show ¬ (1 : Int32) = 0 from by decide)]
  simp only [if_true]
  rw [hlm]
  have hM : MB (0 : Int32) c bl [] := ⟨rfl, by simp, hb0, by simp, by simp⟩
  have key := mfmt_loop hec hO.1 hAl hkm hvm htx th lm f X.length gx_fu 0 (X.length + 1) 0 (-1) [] (0 : Int32) c bl w pr cv ag gv ix bi le us xn hn lo xp dn dp un_ up_ lp hp uu crn crp bo ng no fl xd hd ld dd ud sp crd yb rc lc (by omega) (by have := fu_big; have := hO.1; omega) (by omega) hO.2.1 hO.2.2 (by omega) (by omega) (by omega) (by omega) (by simp) hM hbl
  rw [show iI ((0 : Nat) : Int) = 0 from rfl, show iI (0 : Int) = 0 from rfl, show iI (-1) = -1 from rfl] at key
  exact key
set_option maxRecDepth 10000 in
theorem mformat_no1 {fi : Int} (f0 : -2147483648 ≤ fi) (f1 : fi < 2147483648) (hf : fi < 0 ∨ 8 ≤ fi) (sel : Nat) (arn : Int32) (km : Nat → Int32) (vm : Nat → Int64) (tlm : Nat → Int32) (tx : Nat → Nat → Int32) (th lm ec : Nat → Int32) (c : Nat → Int32) (bl : Nat) (p0 fe h0 ln nx bf co0 pl0 : Int32) (w pr cv ag gv ix bi le us xn hn lo xp dn dp un_ up_ lp hp uu crn crp bo ng no : Int32) (fl xd hd ld dd ud sp crd yb rc : Nat → Int32) (lc : Nat → Int64) :
    f_Md_format (iI fi) th sel lm p0 fe h0 ln ec w pr fl cv ag gv nx arn ix bf km vm bi le us xn xd lc hn hd lo ld xp dn dd dp un_ ud up_ lp hp sp tlm uu crn crp crd bo ng no yb co0 pl0 rc c bl tx = some (0, p0, fe, h0, ln, w, pr, fl, cv, ag, gv, nx, ix, bf, bi, le, us, xn, xd, lc, hn, hd, lo, ld, xp, dn, dd, dp, un_, ud, up_, lp, hp, sp, uu, crn, crp, crd, bo, ng, no, yb, 1, pl0, rc, c, bl) := by
  have g1 : f_Md_good (0 : Int32) (1 : Int32) co0 = some (0, 1) := rfl
  unfold f_Md_format f_Md_format_15 f_Md_format_16
  rw [g1]
  simp only [Option.bind_some]
  apply mo_some (π := π47)
  · by_cases q : fi < 0
    · rw [if_pos (show iI fi < 0 from by simp (disch := omega) only [iI_lit, iL_lit, iI_add, iI_sub, iI_mul, iI_neg, iL_add, iL_sub, iL_mul, iL_neg, iI_lt, iI_le, iI_eq, iL_lt, iL_le, iL_eqS, iI_c, iI_ok, iI_l, iL_i, iI_low, l_ushrI, l_shlI, l_shrI, i_shlI, i_shrI, i_ushrI, iI_div, iL_div, Int.toNat_natCast, Int.reduceToNat, iI_ofNat]; omega), if_pos trivial]
    · rw [if_neg (show ¬ iI fi < 0 from by simp (disch := omega) only [iI_lit, iL_lit, iI_add, iI_sub, iI_mul, iI_neg, iL_add, iL_sub, iL_mul, iL_neg, iI_lt, iI_le, iI_eq, iL_lt, iL_le, iL_eqS, iI_c, iI_ok, iI_l, iL_i, iI_low, l_ushrI, l_shlI, l_shrI, i_shlI, i_shrI, i_ushrI, iI_div, iL_div, Int.toNat_natCast, Int.reduceToNat, iI_ofNat]; omega), if_pos (show (7 : Int32) < iI fi from by simp (disch := omega) only [iI_lit, iL_lit, iI_add, iI_sub, iI_mul, iI_neg, iL_add, iL_sub, iL_mul, iL_neg, iI_lt, iI_le, iI_eq, iL_lt, iL_le, iL_eqS, iI_c, iI_ok, iI_l, iL_i, iI_low, l_ushrI, l_shlI, l_shrI, i_shlI, i_shrI, i_ushrI, iI_div, iL_div, Int.toNat_natCast, Int.reduceToNat, iI_ofNat]; omega), if_pos trivial]
  · exact Nat.le_refl _
set_option maxRecDepth 10000 in
theorem mformat_no2 {f : Nat} (hf : f < 8) (arn : Int32) (km : Nat → Int32) (vm : Nat → Int64) (tlm : Nat → Int32) (tx : Nat → Nat → Int32) {th : Nat → Int32} (hth : th f = 0) (lm ec : Nat → Int32) (c : Nat → Int32) (bl : Nat) (p0 fe h0 ln nx bf co0 pl0 : Int32) (w pr cv ag gv ix bi le us xn hn lo xp dn dp un_ up_ lp hp uu crn crp bo ng no : Int32) (fl xd hd ld dd ud sp crd yb rc : Nat → Int32) (lc : Nat → Int64) :
    f_Md_format (iI f) th f lm p0 fe h0 ln ec w pr fl cv ag gv nx arn ix bf km vm bi le us xn xd lc hn hd lo ld xp dn dd dp un_ ud up_ lp hp sp tlm uu crn crp crd bo ng no yb co0 pl0 rc c bl tx = some (0, p0, fe, h0, ln, w, pr, fl, cv, ag, gv, nx, ix, bf, bi, le, us, xn, xd, lc, hn, hd, lo, ld, xp, dn, dd, dp, un_, ud, up_, lp, hp, sp, uu, crn, crp, crd, bo, ng, no, yb, 2, pl0, rc, c, bl) := by
  have hok : gx_ok (iI (f : Int)) 8 = true := by simp (disch := omega) only [iI_lit, iL_lit, iI_add, iI_sub, iI_mul, iI_neg, iL_add, iL_sub, iL_mul, iL_neg, iI_lt, iI_le, iI_eq, iL_lt, iL_le, iL_eqS, iI_c, iI_ok, iI_l, iL_i, iI_low, l_ushrI, l_shlI, l_shrI, i_shlI, i_shrI, i_ushrI, iI_div, iL_div, Int.toNat_natCast, Int.reduceToNat, iI_ofNat]; omega
  have g1 : f_Md_good (1 : Int32) (1 : Int32) co0 = some (1, 0) := rfl
  unfold f_Md_format f_Md_format_16
  rw [g1]
  simp only [Option.bind_some]
  apply mo_some (π := π47)
  · rw [if_neg (show ¬ iI (f : Int) < 0 from by simp (disch := omega) only [iI_lit, iL_lit, iI_add, iI_sub, iI_mul, iI_neg, iL_add, iL_sub, iL_mul, iL_neg, iI_lt, iI_le, iI_eq, iL_lt, iL_le, iL_eqS, iI_c, iI_ok, iI_l, iL_i, iI_low, l_ushrI, l_shlI, l_shrI, i_shlI, i_shrI, i_ushrI, iI_div, iL_div, Int.toNat_natCast, Int.reduceToNat, iI_ofNat]; omega), if_neg (show ¬ (7 : Int32) < iI (f : Int) from by simp (disch := omega) only [iI_lit, iL_lit, iI_add, iI_sub, iI_mul, iI_neg, iL_add, iL_sub, iL_mul, iL_neg, iI_lt, iI_le, iI_eq, iL_lt, iL_le, iL_eqS, iI_c, iI_ok, iI_l, iL_i, iI_low, l_ushrI, l_shlI, l_shrI, i_shlI, i_shrI, i_ushrI, iI_div, iL_div, Int.toNat_natCast, Int.reduceToNat, iI_ofNat]; omega), if_neg (show ¬ (1 : Int32) = 0 from by decide)]
    simp only [if_pos hok]
    rw [iI_c (by omega) (by omega), Int.toNat_natCast, hth]
    have g2 : f_Md_good (0 : Int32) (2 : Int32) 0 = some (0, 2) := rfl
    rw [g2, Option.bind_some, if_pos rfl]
  · exact Nat.le_refl _
-- TF
set_option maxRecDepth 10000 in
theorem FLG_of {m : Nat} {ct : Nat → Int} (h : FLX m ct) {fc : Nat → Int32} (hfc : ∀ x, x < 7 → fc x = iI (ct x)) (hct : ∀ x, x < 7 → 0 ≤ ct x ∧ ct x ≤ 100000) : FLG (iI m) fc := by
  have bits : ∀ m : Fin 256, ((iI (m.val : Int) &&& 1 = 0) ↔ m.val.testBit 0 = false) ∧ ((iI (m.val : Int) &&& 2 = 0) ↔ m.val.testBit 1 = false) ∧ ((iI (m.val : Int) &&& 4 = 0) ↔ m.val.testBit 2 = false) ∧ ((iI (m.val : Int) &&& 8 = 0) ↔ m.val.testBit 3 = false) ∧ ((iI (m.val : Int) &&& 16 = 0) ↔ m.val.testBit 4 = false) ∧ ((iI (m.val : Int) &&& 32 = 0) ↔ m.val.testBit 5 = false) ∧ ((iI (m.val : Int) &&& 64 = 0) ↔ m.val.testBit 6 = false) := by decide +kernel
  obtain ⟨b0, b1, b2, b3, b4, b5, b6⟩ := bits ⟨m, h.1⟩
  simp only at b0 b1 b2 b3 b4 b5 b6
  have key : ∀ x, x < 7 → (m.testBit x = false ↔ fc x ≤ 0) := by
    intro x hx
    rw [fc_le (hfc x hx) (hct x hx).1 (hct x hx).2, ← h.2.1 x hx]
    simp
  exact ⟨b0.trans (key 0 (by omega)), b1.trans (key 1 (by omega)), b2.trans (key 2 (by omega)), b3.trans (key 3 (by omega)), b4.trans (key 4 (by omega)), b5.trans (key 5 (by omega)), b6.trans (key 6 (by omega))⟩
set_option maxRecDepth 10000 in
theorem FLX_none {m : Nat} {ct : Nat → Int} (h : FLX m ct) (h0 : ∀ x, x < 7 → ¬ 1 ≤ ct x) : m = 0 := by
  have all : ∀ m : Fin 256, (m.val.testBit 0 = false ∧ m.val.testBit 1 = false ∧ m.val.testBit 2 = false ∧ m.val.testBit 3 = false ∧ m.val.testBit 4 = false ∧ m.val.testBit 5 = false ∧ m.val.testBit 6 = false ∧ m.val.testBit 7 = false) → m.val = 0 := by decide +kernel
  have key : ∀ x, x < 7 → m.testBit x = false := by
    intro x hx
    have := h.2.1 x hx
    by_cases q : m.testBit x = true
    · exact absurd (this.mp q) (h0 x hx)
    · simpa using q
  refine all ⟨m, h.1⟩ ⟨key 0 (by omega), key 1 (by omega), key 2 (by omega), key 3 (by omega), key 4 (by omega), key 5 (by omega), key 6 (by omega), ?_⟩
  by_cases q : m.testBit 7 = true
  · obtain ⟨x, hx, hc⟩ := h.2.2.1.mp q
    exact absurd (by omega) (h0 x hx)
  · simpa using q
set_option maxRecDepth 10000 in
abbrev AGC (kc : Nat → Int32) (vc : Nat → Int64) (tl tv : Nat → Int32) (tc : Nat → Nat → Int32) (A : List AgT) : Prop := (A.length ≤ 16) ∧ (∀ i a, A[i]? = some a → kc i = a.1) ∧ (∀ i a, A[i]? = some a → a.1 ≠ iI 7 → vc i = a.2.1) ∧ (∀ i a, A[i]? = some a → a.1 = iI 7 → a.2.2.length ≤ 200 ∧ BY 200 (tl i) (tv i) (tc i) a.2.2) ∧ (∀ a ∈ A, a.1 = iI 1 → a.2.1 = iL 0 ∨ a.2.1 = iL 1)
set_option maxRecDepth 10000 in
theorem AGC.le {kc : Nat → Int32} {vc : Nat → Int64} {tl tv : Nat → Int32} {tc : Nat → Nat → Int32} {A : List AgT} (h_ : AGC kc vc tl tv tc A) : A.length ≤ 16 := h_.1
set_option maxRecDepth 10000 in
theorem AGC.kd {kc : Nat → Int32} {vc : Nat → Int64} {tl tv : Nat → Int32} {tc : Nat → Nat → Int32} {A : List AgT} (h_ : AGC kc vc tl tv tc A) : ∀ i a, A[i]? = some a → kc i = a.1 := h_.2.1
set_option maxRecDepth 10000 in
theorem AGC.vl {kc : Nat → Int32} {vc : Nat → Int64} {tl tv : Nat → Int32} {tc : Nat → Nat → Int32} {A : List AgT} (h_ : AGC kc vc tl tv tc A) : ∀ i a, A[i]? = some a → a.1 ≠ iI 7 → vc i = a.2.1 := h_.2.2.1
set_option maxRecDepth 10000 in
theorem AGC.tx {kc : Nat → Int32} {vc : Nat → Int64} {tl tv : Nat → Int32} {tc : Nat → Nat → Int32} {A : List AgT} (h_ : AGC kc vc tl tv tc A) : ∀ i a, A[i]? = some a → a.1 = iI 7 → a.2.2.length ≤ 200 ∧ BY 200 (tl i) (tv i) (tc i) a.2.2 := h_.2.2.2.1
set_option maxRecDepth 10000 in
theorem AGC.k1 {kc : Nat → Int32} {vc : Nat → Int64} {tl tv : Nat → Int32} {tc : Nat → Nat → Int32} {A : List AgT} (h_ : AGC kc vc tl tv tc A) : ∀ a ∈ A, a.1 = iI 1 → a.2.1 = iL 0 ∨ a.2.1 = iL 1 := h_.2.2.2.2
set_option maxRecDepth 10000 in
abbrev FM3 (X : List Int32) (wc ic pc cc fl : Nat → Int32) (i k : Nat) (a : Int) : Prop := (wc i = iI (dWd X (k + 1))) ∧ (ic i = iI a) ∧ (pc i = iI (dPr X (k + 1))) ∧ (cc i = iI (dCv X (k + 1))) ∧ (∃ m, FLX m (dCt X (k + 1)) ∧ fl i = iI m)
set_option maxRecDepth 10000 in
theorem FM3.w {X : List Int32} {wc ic pc cc fl : Nat → Int32} {i k : Nat} {a : Int} (h_ : FM3 X wc ic pc cc fl i k a) : wc i = iI (dWd X (k + 1)) := h_.1
set_option maxRecDepth 10000 in
theorem FM3.x {X : List Int32} {wc ic pc cc fl : Nat → Int32} {i k : Nat} {a : Int} (h_ : FM3 X wc ic pc cc fl i k a) : ic i = iI a := h_.2.1
set_option maxRecDepth 10000 in
theorem FM3.p {X : List Int32} {wc ic pc cc fl : Nat → Int32} {i k : Nat} {a : Int} (h_ : FM3 X wc ic pc cc fl i k a) : pc i = iI (dPr X (k + 1)) := h_.2.2.1
set_option maxRecDepth 10000 in
theorem FM3.c {X : List Int32} {wc ic pc cc fl : Nat → Int32} {i k : Nat} {a : Int} (h_ : FM3 X wc ic pc cc fl i k a) : cc i = iI (dCv X (k + 1)) := h_.2.2.2.1
set_option maxRecDepth 10000 in
theorem FM3.f {X : List Int32} {wc ic pc cc fl : Nat → Int32} {i k : Nat} {a : Int} (h_ : FM3 X wc ic pc cc fl i k a) : ∃ m, FLX m (dCt X (k + 1)) ∧ fl i = iI m := h_.2.2.2.2
set_option maxRecDepth 10000 in
theorem wd_step {X : List Int32} (hX1 : X.length ≤ 1000) {A : List AgT} {k : Nat} (hk : k < X.length) (hD : DOK X (k + 1)) (hnb : ¬ BARX X k) {nx sm : Int} (n0 : 0 ≤ nx) (n1 : nx ≤ 9000) (s0 : -1 ≤ sm) (s1 : sm ≤ 10000) {fcv ffl fwd fpr fix : Nat → Int32} {i : Nat} (hi : i < 500) {aa : Int} (haa : CVA (dCv X (k + 1)) → aa = tkA X k nx sm) (h3 : FM3 X fwd fix fpr fcv ffl i k aa) {kc : Nat → Int32} {vc : Nat → Int64} {tl tv : Nat → Int32} {tc : Nat → Nat → Int32} (hA : AGC kc vc tl tv tc A) {t : List Nat} {fr : Nat} {E R : List Int32} {co pl : Int} (hR : RF X A (k :: t) fr nx sm E co pl R) {T : List Int32} (hT : T = E ++ (X.take k).drop fr) (hTl : T.length ≤ 32768) {rln rov : Int32} {rrc : Nat → Int32} (hBT : BY 32768 rln rov rrc T) {hl0 bl0 : Int32} (hh : LN hl0) (hb : LN bl0) (up0 fl0 le0 cl0 pr0 bo0 wd0 zr0 ho0 : Int32) (hc bc : Nat → Int32) (na ng inf q0 op vs us ws ts es ep rs ds dp ns : Int32) (c0 : Int64) (si : Nat) (vl ul wl tl_ ed rl dd nl ch : Nat → Int32) :
    ∃ r : T43, f_Pr_writeDirective (iI i) 4 10600 32768 fcv ffl fwd fpr up0 fl0 hl0 bl0 fix le0 (iI A.length) kc vc cl0 ds dp dd pr0 na ng inf c0 q0 op vs vl us ul si ws wl ts tl_ es ep ed rs rl bo0 wd0 hc rln rov zr0 bc ns nl ch ho0 rrc tl tv tc = some r ∧ LN r.2.2.2.1 ∧ LN r.2.2.2.2.1 ∧ ∃ T', BY 32768 r.2.2.2.2.2.2.2.2.2.2.2.2.2.2.2.2.2.2.2.2.2.2.2.2.2.2.2.2.2.2.2.2.2.2.1 r.2.2.2.2.2.2.2.2.2.2.2.2.2.2.2.2.2.2.2.2.2.2.2.2.2.2.2.2.2.2.2.2.2.2.2.1 r.2.2.2.2.2.2.2.2.2.2.2.2.2.2.2.2.2.2.2.2.2.2.2.2.2.2.2.2.2.2.2.2.2.2.2.2.2.2.2.2.2.2 T' ∧
      ((r.1 = 0 ∧ T'.length ≤ 32768 ∧ ∃ nx' sm', RF X A t (dP3 X (k + 1) + 1) nx' sm' T' co pl R ∧ nx' = (if dCv X (k + 1) = 110 ∨ dCv X (k + 1) = 37 then nx else tkN X k nx) ∧ sm' = (if dCv X (k + 1) = 110 ∨ dCv X (k + 1) = 37 then sm else tkA X k nx sm)) ∨ (r.1 = 3 ∧ co = 5 ∧ pl = -1) ∨ (r.1 = 1 ∧ co = 3 ∧ pl = k) ∨ (r.1 = 2 ∧ co = 4 ∧ pl = k)) := by
  obtain ⟨m, hm, hfm⟩ := h3.f
  have hct : ∀ x, x < 7 → 0 ≤ dCt X (k + 1) x ∧ dCt X (k + 1) x ≤ 100000 := fun x _ => dCt_b (by omega) (k + 1) x
  have hw := dWd_b X (k + 1)
  have hcb := CNV_b hD.2.2.2.2
  unfold RF at hR
  rw [← hT, if_neg (show ¬ 32768 < T.length by omega)] at hR
  -- the outcome of a directive that is printed
  have fin : ∀ (Q : List Int32) (nx' sm' : Int) (r : T43), WDR (ovC (T ++ Q)) (T ++ Q) r → STP T Q (fun E' => RF X A t (dP3 X (k + 1) + 1) nx' sm' E' co pl R) co pl → nx' = (if dCv X (k + 1) = 110 ∨ dCv X (k + 1) = 37 then nx else tkN X k nx) → sm' = (if dCv X (k + 1) = 110 ∨ dCv X (k + 1) = 37 then sm else tkA X k nx sm) → LN r.2.2.2.1 ∧ LN r.2.2.2.2.1 ∧ ∃ T', BY 32768 r.2.2.2.2.2.2.2.2.2.2.2.2.2.2.2.2.2.2.2.2.2.2.2.2.2.2.2.2.2.2.2.2.2.2.1 r.2.2.2.2.2.2.2.2.2.2.2.2.2.2.2.2.2.2.2.2.2.2.2.2.2.2.2.2.2.2.2.2.2.2.2.1 r.2.2.2.2.2.2.2.2.2.2.2.2.2.2.2.2.2.2.2.2.2.2.2.2.2.2.2.2.2.2.2.2.2.2.2.2.2.2.2.2.2.2 T' ∧ ((r.1 = 0 ∧ T'.length ≤ 32768 ∧ ∃ nx' sm', RF X A t (dP3 X (k + 1) + 1) nx' sm' T' co pl R ∧ nx' = (if dCv X (k + 1) = 110 ∨ dCv X (k + 1) = 37 then nx else tkN X k nx) ∧ sm' = (if dCv X (k + 1) = 110 ∨ dCv X (k + 1) = 37 then sm else tkA X k nx sm)) ∨ (r.1 = 3 ∧ co = 5 ∧ pl = -1) ∨ (r.1 = 1 ∧ co = 3 ∧ pl = k) ∨ (r.1 = 2 ∧ co = 4 ∧ pl = k)) := by
    intro Q nx' sm' r hW hS e1 e2
    obtain ⟨w1, w2, w3, w4⟩ := hW
    refine ⟨w2, w3, T ++ Q, w4, ?_⟩
    unfold STP at hS
    unfold ovC at w1
    by_cases z : 32768 < (T ++ Q).length
    · rw [if_pos z] at hS w1
      exact Or.inr (Or.inl ⟨w1, hS.1, hS.2⟩)
    · rw [if_neg z] at hS w1
      exact Or.inl ⟨w1, by omega, nx', sm', hS, e1, e2⟩
  by_cases q110 : dCv X (k + 1) = 110
  · rw [if_pos q110] at hR
    -- nothing is allowed here
    have hwd : dWd X (k + 1) = -1 := by
      apply Classical.byContradiction
      intro z
      exact hnb (Or.inr (Or.inr (Or.inr (Or.inr (Or.inr (Or.inr (Or.inl ⟨q110, z⟩)))))))
    have hm0 : m = 0 := FLX_none hm (fun x hx y => hnb (Or.inr (Or.inl ⟨x, hx, y, by rw [q110]; rw [show alM 110 = 0 from by decide]; simp⟩)))
    obtain ⟨r, e, hW⟩ := wd_n (fcv := fcv) (ffl := ffl) (fwd := fwd) (fpr := fpr) (fix := fix) hi (by rw [h3.c, q110]) (by rw [hfm, hm0]; rfl) (by rw [h3.w, hwd]) h3.p hh hb up0 fl0 le0 cl0 pr0 bo0 wd0 zr0 ho0 (iI A.length) kc vc tl tv tc hc bc hBT na ng inf q0 op vs us ws ts es ep rs ds dp ns c0 si vl ul wl tl_ ed rl dd nl ch
    exact ⟨r, e, fin [iI 10] nx sm r hW hR (by rw [if_pos (Or.inl q110)]) (by rw [if_pos (Or.inl q110)])⟩
  rw [if_neg q110] at hR
  by_cases q37 : dCv X (k + 1) = 37
  · rw [if_pos q37] at hR
    have hF : FLG (iI m) (fun x => iI (dCt X (k + 1) x)) := FLG_of hm (fun _ _ => rfl) hct
    have hz : iI (dCt X (k + 1) 4) ≤ 0 := (fc_le (ct := dCt X (k + 1)) (fc := fun x => iI (dCt X (k + 1) x)) rfl (hct 4 (by omega)).1 (hct 4 (by omega)).2).mpr (fun y => hnb (Or.inr (Or.inl ⟨4, by omega, y, by rw [q37]; decide⟩)))
    obtain ⟨r, e, hW⟩ := wd_pct (fcv := fcv) (ffl := ffl) (fwd := fwd) (fpr := fpr) (fix := fix) hi (by rw [h3.c, q37]) hfm hw.1 hD.2.1 h3.w h3.p hF hz hh hb up0 fl0 le0 cl0 pr0 bo0 wd0 zr0 ho0 (iI A.length) kc vc tl tv tc hc bc hBT na ng inf q0 op vs us ws ts es ep rs ds dp ns c0 si vl ul wl tl_ ed rl dd nl ch
    exact ⟨r, e, fin _ nx sm r hW hR (by rw [if_pos (Or.inr q37)]) (by rw [if_pos (Or.inr q37)])⟩
  rw [if_neg q37] at hR
  have hcva := CNV_CVA hD.2.2.2.2 q110 q37
  have hn3 : ¬ (dCv X (k + 1) = 110 ∨ dCv X (k + 1) = 37) := by omega
  obtain ⟨t1, t2, t3, t4⟩ := tk_b (X := X) (k := k) hk n0 s0 s1 (b := 9000) n1 (by omega)
  have hix : fix i = iI (tkA X k nx sm) := by rw [h3.x, haa hcva]
  by_cases qa : 0 ≤ tkA X k nx sm ∧ tkA X k nx sm < A.length
  · rw [if_neg (not_not_intro qa)] at hR
    obtain ⟨kd, v, u, ag, hg, hd, hR⟩ := hR
    obtain ⟨a, ha⟩ : ∃ a : Nat, tkA X k nx sm = (a : Int) := ⟨(tkA X k nx sm).toNat, by omega⟩
    rw [ha, Int.toNat_natCast] at hg
    have haA : a < A.length := (List.getElem?_eq_some_iff.mp hg).1
    have hA16 := hA.le
    have hka : kc a = iI kd := by rw [hA.kd a ag hg, hd.kk]
    have hne : kd ≠ 7 → ag.1 ≠ iI 7 := fun y z => by rw [hd.kk, iI_eq (by have := hd.k0; omega) (by have := hd.k7; omega) (by omega) (by omega)] at z; exact y z
    have hva : kd ≠ 7 → vc a = iL v := fun y => by rw [hA.vl a ag hg (hne y), hd.vl y]
    obtain ⟨v', u', c0_, c1_, _, _, hv', _⟩ := long_su (vc a)
    have hfit : FITC (dCv X (k + 1)) kd v' ↔ FITC (dCv X (k + 1)) kd v := by
      by_cases z : kd = 7
      · unfold FITC; rw [z]; simp
      · have := hva z
        rw [hv', iL_eqS (by omega) (by omega) hd.v0 hd.v1] at this
        rw [this]
    have w77 := wq_77 (fcv := fcv) (ffl := ffl) (fwd := fwd) (fpr := fpr) (fix := fix) hi hcva h3.c hfm h3.w h3.p (a := a) (n := A.length) (by rw [hix, ha]) hA16 haA hd.k0 hd.k7 c0_ c1_ hka hv' hh hb up0 fl0 le0 cl0 pr0 bo0 wd0 zr0 ho0 tl tv tc hc bc hBT na ng inf q0 op vs us ws ts es ep rs ds dp ns c0 si vl ul wl tl_ ed rl dd nl ch
    by_cases qf : FITC (dCv X (k + 1)) kd v
    · rw [if_neg (not_not_intro qf)] at hR
      obtain ⟨fc, Q, hfc, hQ, hS⟩ := hR
      rw [w77.1 (hfit.mpr qf)]
      have hk1 : kd = 1 → v = 0 ∨ v = 1 := by
        intro z
        have := hA.k1 ag (List.mem_of_getElem? hg) (by rw [hd.kk, z])
        rw [hd.vl (by omega), iL_eqS hd.v0 hd.v1 (by omega) (by omega), iL_eqS hd.v0 hd.v1 (by omega) (by omega)] at this
        exact this
      obtain ⟨r, e, hW⟩ := wd121 hcva qf hd.k0 hd.k7 hk1 hd.v0 hd.v1 hd.u0 hd.u1 hd.vu hD.2.2.1 hD.2.2.2.1 hw.1 hD.2.1 (FLG_of hm hfc hct) (ADM_of hcva hnb hfc hct) (by omega) hka hva (fun z => by have := hA.tx a ag hg (by rw [hd.kk, z]); exact ⟨this.2, this.1⟩) hQ (BY_nil 4 hc) (BY_nil 10600 bc) hBT fcv ffl fwd fpr fix (iI A.length) na ng inf q0 op vs us ws ts es ep rs ds dp ns c0 si vl ul wl tl_ ed rl dd nl ch
      exact ⟨r, e, fin Q _ _ r hW hS (by rw [if_neg hn3]) (by rw [if_neg hn3])⟩
    · rw [if_pos qf] at hR
      obtain ⟨r, e, w1, w2, w3, w4⟩ := w77.2 (fun z => qf (hfit.mp z))
      exact ⟨r, e, w2, w3, T, w4, Or.inr (Or.inr (Or.inr ⟨w1, hR.1, hR.2⟩))⟩
  · rw [if_pos qa] at hR
    obtain ⟨r, e, w1, w2, w3, w4⟩ := wd_miss (fcv := fcv) (ffl := ffl) (fwd := fwd) (fpr := fpr) (fix := fix) hi hcva h3.c hfm h3.w h3.p (by omega) (by omega) hix hA.le (by omega) hh hb up0 fl0 le0 cl0 pr0 bo0 wd0 zr0 ho0 kc vc tl tv tc hc bc hBT na ng inf q0 op vs us ws ts es ep rs ds dp ns c0 si vl ul wl tl_ ed rl dd nl ch
    exact ⟨r, e, w2, w3, T, w4, Or.inr (Or.inr (Or.inl ⟨w1, hR.1, hR.2⟩))⟩
-- TG
set_option maxRecDepth 10000 in
abbrev FMC (X : List Int32) (A : List AgT) (L : List Nat) (fcv ffl fwd fpr fix pc_ ac_ : Nat → Int32) : Prop := (GOODL X L) ∧ (∀ k ∈ L, ¬ BARX X k) ∧ (FMG X fwd fix fpr fcv ffl pc_ ac_ L) ∧ (L.length ≤ 500)
set_option maxRecDepth 10000 in
theorem FMC.g {X : List Int32} {A : List AgT} {L : List Nat} {fcv ffl fwd fpr fix pc_ ac_ : Nat → Int32} (h_ : FMC X A L fcv ffl fwd fpr fix pc_ ac_) : GOODL X L := h_.1
set_option maxRecDepth 10000 in
theorem FMC.b {X : List Int32} {A : List AgT} {L : List Nat} {fcv ffl fwd fpr fix pc_ ac_ : Nat → Int32} (h_ : FMC X A L fcv ffl fwd fpr fix pc_ ac_) : ∀ k ∈ L, ¬ BARX X k := h_.2.1
set_option maxRecDepth 10000 in
theorem FMC.f {X : List Int32} {A : List AgT} {L : List Nat} {fcv ffl fwd fpr fix pc_ ac_ : Nat → Int32} (h_ : FMC X A L fcv ffl fwd fpr fix pc_ ac_) : FMG X fwd fix fpr fcv ffl pc_ ac_ L := h_.2.2.1
set_option maxRecDepth 10000 in
theorem FMC.le {X : List Int32} {A : List AgT} {L : List Nat} {fcv ffl fwd fpr fix pc_ ac_ : Nat → Int32} (h_ : FMC X A L fcv ffl fwd fpr fix pc_ ac_) : L.length ≤ 500 := h_.2.2.2
set_option maxRecDepth 10000 in
theorem nA_step {X : List Int32} {L : List Nat} {i k : Nat} {t : List Nat} (hL : L.drop i = k :: t) {nx sm : Int} (hn : (nA X L 0 (-1)).drop i = nA X (L.drop i) nx sm) : ∃ a, (nA X L 0 (-1))[i]? = some a ∧ (CVA (dCv X (k + 1)) → a = tkA X k nx sm) ∧ (nA X L 0 (-1)).drop (i + 1) = nA X (L.drop (i + 1)) (if dCv X (k + 1) = 110 ∨ dCv X (k + 1) = 37 then nx else tkN X k nx) (if dCv X (k + 1) = 110 ∨ dCv X (k + 1) = 37 then sm else tkA X k nx sm) := by
  have hd1 : L.drop (i + 1) = t := by
    have : (L.drop i).drop 1 = t := by rw [hL]; rfl
    rw [List.drop_drop] at this
    rw [← this]
  rw [hL] at hn
  generalize nA X L 0 (-1) = N at hn ⊢
  have hg : ∀ a s, N.drop i = a :: s → N[i]? = some a ∧ N.drop (i + 1) = s := by
    intro a s h
    constructor
    · have : (N.drop i)[0]? = some a := by rw [h]; rfl
      rw [List.getElem?_drop, Nat.add_zero] at this
      exact this
    · have : (N.drop i).drop 1 = s := by rw [h]; rfl
      rw [List.drop_drop] at this
      rw [← this]
  rw [hd1]
  unfold nA at hn
  by_cases q : dCv X (k + 1) = 37 ∨ dCv X (k + 1) = 110
  · rw [if_pos q] at hn
    obtain ⟨g1, g2⟩ := hg _ _ hn
    refine ⟨_, g1, fun y => ?_, ?_⟩
    · unfold CVA at y; omega
    · rw [g2, if_pos (by omega), if_pos (by omega)]
  · rw [if_neg q] at hn
    rw [if_neg (show ¬ (dCv X (k + 1) = 110 ∨ dCv X (k + 1) = 37) by omega), if_neg (show ¬ (dCv X (k + 1) = 110 ∨ dCv X (k + 1) = 37) by omega)]
    unfold tkA tkN
    by_cases q0 : (ixP X (k + 1)).1 = 0
    · rw [if_pos q0] at hn
      obtain ⟨g1, g2⟩ := hg _ _ hn
      exact ⟨_, g1, fun _ => by rw [if_pos q0], by rw [g2, if_pos q0, if_pos q0]⟩
    · rw [if_neg q0] at hn
      by_cases q1 : (ixP X (k + 1)).1 = -1
      · rw [if_pos q1] at hn
        obtain ⟨g1, g2⟩ := hg _ _ hn
        exact ⟨_, g1, fun _ => by rw [if_neg q0, if_pos q1], by rw [g2, if_neg q0, if_neg q0, if_pos q1]⟩
      · rw [if_neg q1] at hn
        obtain ⟨g1, g2⟩ := hg _ _ hn
        exact ⟨_, g1, fun _ => by rw [if_neg q0, if_neg q1], by rw [g2, if_neg q0, if_neg q0, if_neg q1]⟩
set_option maxRecDepth 10000 in
theorem ffmt_loop {X : List Int32} (hX1 : X.length ≤ 1000) {xl xo : Int32} {xc : Nat → Int32} (hX : BY 1000 xl xo xc X) {A : List AgT} {kc : Nat → Int32} {vc : Nat → Int64} {tl tv : Nat → Int32} {tc : Nat → Nat → Int32} (hA : AGC kc vc tl tv tc A) {L : List Nat} {fcv ffl fwd fpr fix pc_ ac_ : Nat → Int32} (hF : FMC X A L fcv ffl fwd fpr fix pc_ ac_) (sel : Nat) (epr : Int32) :
    ∀ (d n i fr : Nat) (nx sm : Int) (E R : List Int32) (co pl : Int) (rln rov : Int32) (rrc : Nat → Int32) (up0 fl0 hl0 bl0 le0 cl0 ds dp pr0 na ng inf q0 op vs us ws ts es ep rs bo0 wd0 zr0 ns ho0 : Int32) (dd vl ul wl tl_ ed rl hc bc nl ch : Nat → Int32) (c0 : Int64) (si : Nat), i + d = L.length → d < n → fr ≤ X.length → (nA X L 0 (-1)).drop i = nA X (L.drop i) nx sm → 0 ≤ nx → nx ≤ i → -1 ≤ sm → sm ≤ 10000 → RF X A (L.drop i) fr nx sm E co pl R → E.length ≤ 32768 → BY 32768 rln rov rrc E → LN hl0 → LN bl0 →
    ∃ (oc : Int32) (fr' : Nat) (T : List Int32) (rln' rov' plc' : Int32) (rrc' : Nat → Int32) (up0' fl0' hl0' bl0' le0' cl0' ds' dp' pr0' na' ng' inf' q0' op' vs' us' ws' ts' es' ep' rs' bo0' wd0' zr0' ns' ho0' : Int32) (dd' vl' ul' wl' tl_' ed' rl' hc' bc' nl' ch' : Nat → Int32) (c0' : Int64) (si' : Nat), f_Nt_format_65 n 0 (iI fr) (iI i) 32768 1000 4 10600 sel epr rln (iI L.length) xl xc rov pc_ fcv ffl fwd fpr up0 fl0 hl0 bl0 fix le0 (iI A.length) kc vc cl0 ds dp dd pr0 na ng inf c0 q0 op vs vl us ul si ws wl ts tl_ es ep ed rs rl bo0 wd0 hc zr0 bc ns nl ch ac_ (-1) rrc ho0 tl tv tc = f_Nt_format_163 oc (iI fr') 32768 1000 4 10600 sel epr rln' (iI L.length) xl xc rov' pc_ fcv ffl fwd fpr up0' fl0' hl0' bl0' fix le0' (iI A.length) kc vc cl0' ds' dp' dd' pr0' na' ng' inf' c0' q0' op' vs' vl' us' ul' si' ws' wl' ts' tl_' es' ep' ed' rs' rl' bo0' wd0' hc' zr0' bc' ns' nl' ch' ac_ plc' rrc' ho0' tl tv tc ∧ LN hl0' ∧ LN bl0' ∧ BY 32768 rln' rov' rrc' T ∧
      ((oc = 0 ∧ plc' = -1 ∧ fr' ≤ X.length ∧ ∃ nx' sm', RF X A [] fr' nx' sm' T co pl R) ∨ (oc = 3 ∧ co = 5 ∧ pl = -1 ∧ plc' = -1) ∨ (oc = 1 ∧ co = 3 ∧ plc' = iI pl) ∨ (oc = 2 ∧ co = 4 ∧ plc' = iI pl)) := by
  have hxl : xl = iI (X.length : Int) := by rw [hX.1]; congr 2; omega
  have hLle := hF.le
  intro d
  induction d with
  | zero =>
    intro n i fr nx sm E R co pl rln rov rrc up0 fl0 hl0 bl0 le0 cl0 ds dp pr0 na ng inf q0 op vs us ws ts es ep rs bo0 wd0 zr0 ns ho0 dd vl ul wl tl_ ed rl hc bc nl ch c0 si hid hn hfr hna n0 n1 s0 s1 hR hE hB hh hb
    obtain ⟨n, rfl⟩ : ∃ x, n = x + 1 := ⟨n - 1, by omega⟩
    rw [List.drop_of_length_le (by omega)] at hR
    unfold f_Nt_format_65
    rw [if_pos (show iI (L.length : Int) ≤ iI (i : Int) from by simp (disch := omega) only [iI_lit, iL_lit, iI_add, iI_sub, iI_mul, iI_neg, iL_add, iL_sub, iL_mul, iL_neg, iI_lt, iI_le, iI_eq, iL_lt, iL_le, iL_eqS, iI_c, iI_ok, iI_l, iL_i, iI_low, l_ushrI, l_shlI, l_shrI, i_shlI, i_shrI, i_ushrI, iI_div, iL_div, Int.toNat_natCast, Int.reduceToNat, iI_ofNat]; omega)]
    exact ⟨_, fr, E, _, _, _, _, _, _, _, _, _, _, _, _, _, _, _, _, _, _, _, _, _, _, _, _, _, _, _, _, _, _, _, _, _, _, _, _, _, _, _, _, _, _, _, rfl, hh, hb, hB, Or.inl ⟨rfl, rfl, hfr, nx, sm, hR⟩⟩
  | succ d ih =>
    intro n i fr nx sm E R co pl rln rov rrc up0 fl0 hl0 bl0 le0 cl0 ds dp pr0 na ng inf q0 op vs us ws ts es ep rs bo0 wd0 zr0 ns ho0 dd vl ul wl tl_ ed rl hc bc nl ch c0 si hid hn hfr hna n0 n1 s0 s1 hR hE hB hh hb
    obtain ⟨n, rfl⟩ : ∃ x, n = x + 1 := ⟨n - 1, by omega⟩
    have hiL : i < L.length := by omega
    have hok : gx_ok (iI (i : Int)) 500 = true := by simp (disch := omega) only [iI_lit, iL_lit, iI_add, iI_sub, iI_mul, iI_neg, iL_add, iL_sub, iL_mul, iL_neg, iI_lt, iI_le, iI_eq, iL_lt, iL_le, iL_eqS, iI_c, iI_ok, iI_l, iL_i, iI_low, l_ushrI, l_shlI, l_shrI, i_shlI, i_shrI, i_ushrI, iI_div, iL_div, Int.toNat_natCast, Int.reduceToNat, iI_ofNat]; omega
    have hdr := List.drop_eq_getElem_cons hiL
    have hg := List.getElem?_eq_getElem hiL
    obtain ⟨hkX, hDOK⟩ := hF.g _ (List.getElem_mem hiL)
    have hnb := hF.b _ (List.getElem_mem hiL)
    have f2 := hF.f i _ hg
    obtain ⟨aa, ha1, haa, hna'⟩ := nA_step hdr hna
    obtain ⟨a2, ha2, hfx⟩ := f2.x
    rw [ha1] at ha2
    cases ha2
    have f3 : FM3 X fwd fix fpr fcv ffl i L[i] aa := ⟨f2.w, hfx, f2.p, f2.c, f2.f⟩
    have hin := DOK_in hDOK
    rw [hdr] at hR
    -- after a directive that ends the loop
    have stop : ∀ (oc : Int32) (fr' : Nat) (T : List Int32) (rln' rov' plc' : Int32) (rrc' : Nat → Int32) (up0' fl0' hl0' bl0' le0' cl0' ds' dp' pr0' na' ng' inf' q0' op' vs' us' ws' ts' es' ep' rs' bo0' wd0' zr0' ns' ho0' : Int32) (dd' vl' ul' wl' tl_' ed' rl' hc' bc' nl' ch' : Nat → Int32) (c0' : Int64) (si' : Nat), oc ≠ 0 → f_Nt_format_65 n oc (iI fr') (iI i + 1) 32768 1000 4 10600 sel epr rln' (iI L.length) xl xc rov' pc_ fcv ffl fwd fpr up0' fl0' hl0' bl0' fix le0' (iI A.length) kc vc cl0' ds' dp' dd' pr0' na' ng' inf' c0' q0' op' vs' vl' us' ul' si' ws' wl' ts' tl_' es' ep' ed' rs' rl' bo0' wd0' hc' zr0' bc' ns' nl' ch' ac_ plc' rrc' ho0' tl tv tc = f_Nt_format_163 oc (iI fr') 32768 1000 4 10600 sel epr rln' (iI L.length) xl xc rov' pc_ fcv ffl fwd fpr up0' fl0' hl0' bl0' fix le0' (iI A.length) kc vc cl0' ds' dp' dd' pr0' na' ng' inf' c0' q0' op' vs' vl' us' ul' si' ws' wl' ts' tl_' es' ep' ed' rs' rl' bo0' wd0' hc' zr0' bc' ns' nl' ch' ac_ plc' rrc' ho0' tl tv tc := by
      intro oc fr' T rln' rov' plc' rrc' up0' fl0' hl0' bl0' le0' cl0' ds' dp' pr0' na' ng' inf' q0' op' vs' us' ws' ts' es' ep' rs' bo0' wd0' zr0' ns' ho0' dd' vl' ul' wl' tl_' ed' rl' hc' bc' nl' ch' c0' si' hoc
      obtain ⟨n, rfl⟩ : ∃ x, n = x + 1 := ⟨n - 1, by omega⟩
      unfold f_Nt_format_65
      rw [e1N]
      by_cases z : L.length ≤ i + 1
      · rw [if_pos (show iI (L.length : Int) ≤ iI ((i + 1 : Nat) : Int) from by simp (disch := omega) only [iI_lit, iL_lit, iI_add, iI_sub, iI_mul, iI_neg, iL_add, iL_sub, iL_mul, iL_neg, iI_lt, iI_le, iI_eq, iL_lt, iL_le, iL_eqS, iI_c, iI_ok, iI_l, iL_i, iI_low, l_ushrI, l_shlI, l_shrI, i_shlI, i_shrI, i_ushrI, iI_div, iL_div, Int.toNat_natCast, Int.reduceToNat, iI_ofNat]; omega)]
      · rw [if_neg (show ¬ iI (L.length : Int) ≤ iI ((i + 1 : Nat) : Int) from by simp (disch := omega) only [iI_lit, iL_lit, iI_add, iI_sub, iI_mul, iI_neg, iL_add, iL_sub, iL_mul, iL_neg, iI_lt, iI_le, iI_eq, iL_lt, iL_le, iL_eqS, iI_c, iI_ok, iI_l, iL_i, iI_low, l_ushrI, l_shlI, l_shrI, i_shlI, i_shrI, i_ushrI, iI_div, iL_div, Int.toNat_natCast, Int.reduceToNat, iI_ofNat]; omega), if_neg hoc]
    unfold f_Nt_format_65
    rw [if_neg (show ¬ iI (L.length : Int) ≤ iI (i : Int) from by simp (disch := omega) only [iI_lit, iL_lit, iI_add, iI_sub, iI_mul, iI_neg, iL_add, iL_sub, iL_mul, iL_neg, iI_lt, iI_le, iI_eq, iL_lt, iL_le, iL_eqS, iI_c, iI_ok, iI_l, iL_i, iI_low, l_ushrI, l_shlI, l_shrI, i_shlI, i_shrI, i_ushrI, iI_div, iL_div, Int.toNat_natCast, Int.reduceToNat, iI_ofNat]; omega), if_pos rfl, if_pos hok, iI_c (by omega) (by omega), Int.toNat_natCast, f2.l]
    obtain ⟨l1, o1, c1, e1, b1⟩ := apart_spec (n := 32768) (n2 := 1000) (by omega) (by omega) hB hX (f := (fr : Int)) (t := ((L[i] : Nat) : Int)) (by omega) (by omega) (by omega) (by omega)
    rw [hxl] at e1 ⊢
    rw [e1, Option.bind_some]
    dsimp only
    rw [List.take_of_length_le hX1, Int.toNat_natCast, Int.toNat_natCast] at b1
    have ho1 := b1.2.1
    unfold f_Nt_format_122 f_Nt_format_134 f_Nt_format_145
    simp only [if_pos hok]
    rw [iI_c (by omega) (by omega), Int.toNat_natCast, f2.l, f2.a]
    by_cases qo : 32768 < (E ++ (X.take L[i]).drop fr).length
    · rw [if_pos qo] at ho1
      rw [if_neg (show ¬ o1 = 0 from by rw [ho1]; decide), if_neg (show ¬ (3 : Int32) = 1 from by decide), if_neg (show ¬ (3 : Int32) = 2 from by decide)]
      have hco : co = 5 ∧ pl = -1 := by unfold RF at hR; rw [if_pos qo] at hR; exact hR
      have hs := stop 3 (dP3 X (L[i] + 1) + 1) [] l1 o1 (-1) c1 up0 fl0 hl0 bl0 le0 cl0 ds dp pr0 na ng inf q0 op vs us ws ts es ep rs bo0 wd0 zr0 ns ho0 dd vl ul wl tl_ ed rl hc bc nl ch c0 si (by decide)
      rw [hxl] at hs
      exact ⟨_, _, _, _, _, _, _, _, _, _, _, _, _, _, _, _, _, _, _, _, _, _, _, _, _, _, _, _, _, _, _, _, _, _, _, _, _, _, _, _, _, _, _, _, _, _, hs, hh, hb, b1, Or.inr (Or.inl ⟨rfl, hco.1, hco.2, rfl⟩)⟩
    · rw [if_neg qo] at ho1
      rw [if_pos (show o1 = 0 from by rw [ho1]; rfl)]
      obtain ⟨r, er, hL4, hL5, T', hBT', hcase⟩ := wd_step hX1 hkX hDOK hnb n0 (by omega) s0 s1 (by omega) haa f3 hA hR rfl (by omega) b1 hh hb up0 fl0 le0 cl0 pr0 bo0 wd0 zr0 ho0 hc bc na ng inf q0 op vs us ws ts es ep rs ds dp ns c0 si vl ul wl tl_ ed rl dd nl ch
      rw [er, Option.bind_some]
      rcases hcase with ⟨h0, hTl, nx', sm', hR', hnx, hsm⟩ | ⟨h3, hc5, hp5⟩ | ⟨h1, hc3, hp3⟩ | ⟨h2, hc4, hp4⟩
      · rw [h0, if_neg (show ¬ (0 : Int32) = 1 from by decide), if_neg (show ¬ (0 : Int32) = 2 from by decide), e1N]
        have hP := dP_b (X := X) (p := L[i] + 1) (by omega)
        rw [← hnx, ← hsm] at hna'
        obtain ⟨t1, t2, t3, t4⟩ := tk_b (X := X) (k := L[i]) hkX n0 s0 s1 (b := (i : Int)) n1 (by omega)
        have hb1 : 0 ≤ nx' ∧ nx' ≤ (i : Int) + 1 := by rw [hnx]; split <;> omega
        have hb2 : -1 ≤ sm' ∧ sm' ≤ 10000 := by rw [hsm]; split <;> omega
        have := ih n (i + 1) (dP3 X (L[i] + 1) + 1) nx' sm' T' R co pl r.2.2.2.2.2.2.2.2.2.2.2.2.2.2.2.2.2.2.2.2.2.2.2.2.2.2.2.2.2.2.2.2.2.2.1 r.2.2.2.2.2.2.2.2.2.2.2.2.2.2.2.2.2.2.2.2.2.2.2.2.2.2.2.2.2.2.2.2.2.2.2.1 r.2.2.2.2.2.2.2.2.2.2.2.2.2.2.2.2.2.2.2.2.2.2.2.2.2.2.2.2.2.2.2.2.2.2.2.2.2.2.2.2.2.2 r.2.1 r.2.2.1 r.2.2.2.1 r.2.2.2.2.1 r.2.2.2.2.2.1 r.2.2.2.2.2.2.1 r.2.2.2.2.2.2.2.1 r.2.2.2.2.2.2.2.2.1 r.2.2.2.2.2.2.2.2.2.2.1 r.2.2.2.2.2.2.2.2.2.2.2.1 r.2.2.2.2.2.2.2.2.2.2.2.2.1 r.2.2.2.2.2.2.2.2.2.2.2.2.2.1 r.2.2.2.2.2.2.2.2.2.2.2.2.2.2.2.1 r.2.2.2.2.2.2.2.2.2.2.2.2.2.2.2.2.1 r.2.2.2.2.2.2.2.2.2.2.2.2.2.2.2.2.2.1 r.2.2.2.2.2.2.2.2.2.2.2.2.2.2.2.2.2.2.2.1 r.2.2.2.2.2.2.2.2.2.2.2.2.2.2.2.2.2.2.2.2.2.2.1 r.2.2.2.2.2.2.2.2.2.2.2.2.2.2.2.2.2.2.2.2.2.2.2.2.1 r.2.2.2.2.2.2.2.2.2.2.2.2.2.2.2.2.2.2.2.2.2.2.2.2.2.2.1 r.2.2.2.2.2.2.2.2.2.2.2.2.2.2.2.2.2.2.2.2.2.2.2.2.2.2.2.1 r.2.2.2.2.2.2.2.2.2.2.2.2.2.2.2.2.2.2.2.2.2.2.2.2.2.2.2.2.2.1 r.2.2.2.2.2.2.2.2.2.2.2.2.2.2.2.2.2.2.2.2.2.2.2.2.2.2.2.2.2.2.2.1 r.2.2.2.2.2.2.2.2.2.2.2.2.2.2.2.2.2.2.2.2.2.2.2.2.2.2.2.2.2.2.2.2.1 r.2.2.2.2.2.2.2.2.2.2.2.2.2.2.2.2.2.2.2.2.2.2.2.2.2.2.2.2.2.2.2.2.2.2.2.2.1 r.2.2.2.2.2.2.2.2.2.2.2.2.2.2.2.2.2.2.2.2.2.2.2.2.2.2.2.2.2.2.2.2.2.2.2.2.2.2.1 r.2.2.2.2.2.2.2.2.2.2.2.2.2.2.2.2.2.2.2.2.2.2.2.2.2.2.2.2.2.2.2.2.2.2.2.2.2.2.2.2.2.1 r.2.2.2.2.2.2.2.2.2.1 r.2.2.2.2.2.2.2.2.2.2.2.2.2.2.2.2.2.2.1 r.2.2.2.2.2.2.2.2.2.2.2.2.2.2.2.2.2.2.2.2.1 r.2.2.2.2.2.2.2.2.2.2.2.2.2.2.2.2.2.2.2.2.2.2.2.1 r.2.2.2.2.2.2.2.2.2.2.2.2.2.2.2.2.2.2.2.2.2.2.2.2.2.1 r.2.2.2.2.2.2.2.2.2.2.2.2.2.2.2.2.2.2.2.2.2.2.2.2.2.2.2.2.1 r.2.2.2.2.2.2.2.2.2.2.2.2.2.2.2.2.2.2.2.2.2.2.2.2.2.2.2.2.2.2.1 r.2.2.2.2.2.2.2.2.2.2.2.2.2.2.2.2.2.2.2.2.2.2.2.2.2.2.2.2.2.2.2.2.2.1 r.2.2.2.2.2.2.2.2.2.2.2.2.2.2.2.2.2.2.2.2.2.2.2.2.2.2.2.2.2.2.2.2.2.2.2.2.2.1 r.2.2.2.2.2.2.2.2.2.2.2.2.2.2.2.2.2.2.2.2.2.2.2.2.2.2.2.2.2.2.2.2.2.2.2.2.2.2.2.1 r.2.2.2.2.2.2.2.2.2.2.2.2.2.2.2.2.2.2.2.2.2.2.2.2.2.2.2.2.2.2.2.2.2.2.2.2.2.2.2.2.1 r.2.2.2.2.2.2.2.2.2.2.2.2.2.2.1 r.2.2.2.2.2.2.2.2.2.2.2.2.2.2.2.2.2.2.2.2.2.1 (by omega) (by omega) (by omega) hna' hb1.1 (by omega) hb2.1 hb2.2 hR' hTl hBT' hL4 hL5
        rw [hxl] at this
        exact this
      · rw [h3, if_neg (show ¬ (3 : Int32) = 1 from by decide), if_neg (show ¬ (3 : Int32) = 2 from by decide)]
        have hs := stop 3 (dP3 X (L[i] + 1) + 1) [] r.2.2.2.2.2.2.2.2.2.2.2.2.2.2.2.2.2.2.2.2.2.2.2.2.2.2.2.2.2.2.2.2.2.2.1 r.2.2.2.2.2.2.2.2.2.2.2.2.2.2.2.2.2.2.2.2.2.2.2.2.2.2.2.2.2.2.2.2.2.2.2.1 (-1) r.2.2.2.2.2.2.2.2.2.2.2.2.2.2.2.2.2.2.2.2.2.2.2.2.2.2.2.2.2.2.2.2.2.2.2.2.2.2.2.2.2.2 r.2.1 r.2.2.1 r.2.2.2.1 r.2.2.2.2.1 r.2.2.2.2.2.1 r.2.2.2.2.2.2.1 r.2.2.2.2.2.2.2.1 r.2.2.2.2.2.2.2.2.1 r.2.2.2.2.2.2.2.2.2.2.1 r.2.2.2.2.2.2.2.2.2.2.2.1 r.2.2.2.2.2.2.2.2.2.2.2.2.1 r.2.2.2.2.2.2.2.2.2.2.2.2.2.1 r.2.2.2.2.2.2.2.2.2.2.2.2.2.2.2.1 r.2.2.2.2.2.2.2.2.2.2.2.2.2.2.2.2.1 r.2.2.2.2.2.2.2.2.2.2.2.2.2.2.2.2.2.1 r.2.2.2.2.2.2.2.2.2.2.2.2.2.2.2.2.2.2.2.1 r.2.2.2.2.2.2.2.2.2.2.2.2.2.2.2.2.2.2.2.2.2.2.1 r.2.2.2.2.2.2.2.2.2.2.2.2.2.2.2.2.2.2.2.2.2.2.2.2.1 r.2.2.2.2.2.2.2.2.2.2.2.2.2.2.2.2.2.2.2.2.2.2.2.2.2.2.1 r.2.2.2.2.2.2.2.2.2.2.2.2.2.2.2.2.2.2.2.2.2.2.2.2.2.2.2.1 r.2.2.2.2.2.2.2.2.2.2.2.2.2.2.2.2.2.2.2.2.2.2.2.2.2.2.2.2.2.1 r.2.2.2.2.2.2.2.2.2.2.2.2.2.2.2.2.2.2.2.2.2.2.2.2.2.2.2.2.2.2.2.1 r.2.2.2.2.2.2.2.2.2.2.2.2.2.2.2.2.2.2.2.2.2.2.2.2.2.2.2.2.2.2.2.2.1 r.2.2.2.2.2.2.2.2.2.2.2.2.2.2.2.2.2.2.2.2.2.2.2.2.2.2.2.2.2.2.2.2.2.2.2.2.1 r.2.2.2.2.2.2.2.2.2.2.2.2.2.2.2.2.2.2.2.2.2.2.2.2.2.2.2.2.2.2.2.2.2.2.2.2.2.2.1 r.2.2.2.2.2.2.2.2.2.2.2.2.2.2.2.2.2.2.2.2.2.2.2.2.2.2.2.2.2.2.2.2.2.2.2.2.2.2.2.2.2.1 r.2.2.2.2.2.2.2.2.2.1 r.2.2.2.2.2.2.2.2.2.2.2.2.2.2.2.2.2.2.1 r.2.2.2.2.2.2.2.2.2.2.2.2.2.2.2.2.2.2.2.2.1 r.2.2.2.2.2.2.2.2.2.2.2.2.2.2.2.2.2.2.2.2.2.2.2.1 r.2.2.2.2.2.2.2.2.2.2.2.2.2.2.2.2.2.2.2.2.2.2.2.2.2.1 r.2.2.2.2.2.2.2.2.2.2.2.2.2.2.2.2.2.2.2.2.2.2.2.2.2.2.2.2.1 r.2.2.2.2.2.2.2.2.2.2.2.2.2.2.2.2.2.2.2.2.2.2.2.2.2.2.2.2.2.2.1 r.2.2.2.2.2.2.2.2.2.2.2.2.2.2.2.2.2.2.2.2.2.2.2.2.2.2.2.2.2.2.2.2.2.1 r.2.2.2.2.2.2.2.2.2.2.2.2.2.2.2.2.2.2.2.2.2.2.2.2.2.2.2.2.2.2.2.2.2.2.2.2.2.1 r.2.2.2.2.2.2.2.2.2.2.2.2.2.2.2.2.2.2.2.2.2.2.2.2.2.2.2.2.2.2.2.2.2.2.2.2.2.2.2.1 r.2.2.2.2.2.2.2.2.2.2.2.2.2.2.2.2.2.2.2.2.2.2.2.2.2.2.2.2.2.2.2.2.2.2.2.2.2.2.2.2.1 r.2.2.2.2.2.2.2.2.2.2.2.2.2.2.1 r.2.2.2.2.2.2.2.2.2.2.2.2.2.2.2.2.2.2.2.2.2.1 (by decide)
        rw [hxl] at hs
        exact ⟨_, _, _, _, _, _, _, _, _, _, _, _, _, _, _, _, _, _, _, _, _, _, _, _, _, _, _, _, _, _, _, _, _, _, _, _, _, _, _, _, _, _, _, _, _, _, hs, hL4, hL5, hBT', Or.inr (Or.inl ⟨rfl, hc5, hp5, rfl⟩)⟩
      · rw [h1, if_pos rfl]
        have hs := stop 1 (dP3 X (L[i] + 1) + 1) [] r.2.2.2.2.2.2.2.2.2.2.2.2.2.2.2.2.2.2.2.2.2.2.2.2.2.2.2.2.2.2.2.2.2.2.1 r.2.2.2.2.2.2.2.2.2.2.2.2.2.2.2.2.2.2.2.2.2.2.2.2.2.2.2.2.2.2.2.2.2.2.2.1 (iI ((L[i] : Nat) : Int)) r.2.2.2.2.2.2.2.2.2.2.2.2.2.2.2.2.2.2.2.2.2.2.2.2.2.2.2.2.2.2.2.2.2.2.2.2.2.2.2.2.2.2 r.2.1 r.2.2.1 r.2.2.2.1 r.2.2.2.2.1 r.2.2.2.2.2.1 r.2.2.2.2.2.2.1 r.2.2.2.2.2.2.2.1 r.2.2.2.2.2.2.2.2.1 r.2.2.2.2.2.2.2.2.2.2.1 r.2.2.2.2.2.2.2.2.2.2.2.1 r.2.2.2.2.2.2.2.2.2.2.2.2.1 r.2.2.2.2.2.2.2.2.2.2.2.2.2.1 r.2.2.2.2.2.2.2.2.2.2.2.2.2.2.2.1 r.2.2.2.2.2.2.2.2.2.2.2.2.2.2.2.2.1 r.2.2.2.2.2.2.2.2.2.2.2.2.2.2.2.2.2.1 r.2.2.2.2.2.2.2.2.2.2.2.2.2.2.2.2.2.2.2.1 r.2.2.2.2.2.2.2.2.2.2.2.2.2.2.2.2.2.2.2.2.2.2.1 r.2.2.2.2.2.2.2.2.2.2.2.2.2.2.2.2.2.2.2.2.2.2.2.2.1 r.2.2.2.2.2.2.2.2.2.2.2.2.2.2.2.2.2.2.2.2.2.2.2.2.2.2.1 r.2.2.2.2.2.2.2.2.2.2.2.2.2.2.2.2.2.2.2.2.2.2.2.2.2.2.2.1 r.2.2.2.2.2.2.2.2.2.2.2.2.2.2.2.2.2.2.2.2.2.2.2.2.2.2.2.2.2.1 r.2.2.2.2.2.2.2.2.2.2.2.2.2.2.2.2.2.2.2.2.2.2.2.2.2.2.2.2.2.2.2.1 r.2.2.2.2.2.2.2.2.2.2.2.2.2.2.2.2.2.2.2.2.2.2.2.2.2.2.2.2.2.2.2.2.1 r.2.2.2.2.2.2.2.2.2.2.2.2.2.2.2.2.2.2.2.2.2.2.2.2.2.2.2.2.2.2.2.2.2.2.2.2.1 r.2.2.2.2.2.2.2.2.2.2.2.2.2.2.2.2.2.2.2.2.2.2.2.2.2.2.2.2.2.2.2.2.2.2.2.2.2.2.1 r.2.2.2.2.2.2.2.2.2.2.2.2.2.2.2.2.2.2.2.2.2.2.2.2.2.2.2.2.2.2.2.2.2.2.2.2.2.2.2.2.2.1 r.2.2.2.2.2.2.2.2.2.1 r.2.2.2.2.2.2.2.2.2.2.2.2.2.2.2.2.2.2.1 r.2.2.2.2.2.2.2.2.2.2.2.2.2.2.2.2.2.2.2.2.1 r.2.2.2.2.2.2.2.2.2.2.2.2.2.2.2.2.2.2.2.2.2.2.2.1 r.2.2.2.2.2.2.2.2.2.2.2.2.2.2.2.2.2.2.2.2.2.2.2.2.2.1 r.2.2.2.2.2.2.2.2.2.2.2.2.2.2.2.2.2.2.2.2.2.2.2.2.2.2.2.2.1 r.2.2.2.2.2.2.2.2.2.2.2.2.2.2.2.2.2.2.2.2.2.2.2.2.2.2.2.2.2.2.1 r.2.2.2.2.2.2.2.2.2.2.2.2.2.2.2.2.2.2.2.2.2.2.2.2.2.2.2.2.2.2.2.2.2.1 r.2.2.2.2.2.2.2.2.2.2.2.2.2.2.2.2.2.2.2.2.2.2.2.2.2.2.2.2.2.2.2.2.2.2.2.2.2.1 r.2.2.2.2.2.2.2.2.2.2.2.2.2.2.2.2.2.2.2.2.2.2.2.2.2.2.2.2.2.2.2.2.2.2.2.2.2.2.2.1 r.2.2.2.2.2.2.2.2.2.2.2.2.2.2.2.2.2.2.2.2.2.2.2.2.2.2.2.2.2.2.2.2.2.2.2.2.2.2.2.2.1 r.2.2.2.2.2.2.2.2.2.2.2.2.2.2.1 r.2.2.2.2.2.2.2.2.2.2.2.2.2.2.2.2.2.2.2.2.2.1 (by decide)
        rw [hxl] at hs
        exact ⟨_, _, _, _, _, _, _, _, _, _, _, _, _, _, _, _, _, _, _, _, _, _, _, _, _, _, _, _, _, _, _, _, _, _, _, _, _, _, _, _, _, _, _, _, _, _, hs, hL4, hL5, hBT', Or.inr (Or.inr (Or.inl ⟨rfl, hc3, by rw [hp3]⟩))⟩
      · rw [h2, if_neg (show ¬ (2 : Int32) = 1 from by decide), if_pos rfl]
        have hs := stop 2 (dP3 X (L[i] + 1) + 1) [] r.2.2.2.2.2.2.2.2.2.2.2.2.2.2.2.2.2.2.2.2.2.2.2.2.2.2.2.2.2.2.2.2.2.2.1 r.2.2.2.2.2.2.2.2.2.2.2.2.2.2.2.2.2.2.2.2.2.2.2.2.2.2.2.2.2.2.2.2.2.2.2.1 (iI ((L[i] : Nat) : Int)) r.2.2.2.2.2.2.2.2.2.2.2.2.2.2.2.2.2.2.2.2.2.2.2.2.2.2.2.2.2.2.2.2.2.2.2.2.2.2.2.2.2.2 r.2.1 r.2.2.1 r.2.2.2.1 r.2.2.2.2.1 r.2.2.2.2.2.1 r.2.2.2.2.2.2.1 r.2.2.2.2.2.2.2.1 r.2.2.2.2.2.2.2.2.1 r.2.2.2.2.2.2.2.2.2.2.1 r.2.2.2.2.2.2.2.2.2.2.2.1 r.2.2.2.2.2.2.2.2.2.2.2.2.1 r.2.2.2.2.2.2.2.2.2.2.2.2.2.1 r.2.2.2.2.2.2.2.2.2.2.2.2.2.2.2.1 r.2.2.2.2.2.2.2.2.2.2.2.2.2.2.2.2.1 r.2.2.2.2.2.2.2.2.2.2.2.2.2.2.2.2.2.1 r.2.2.2.2.2.2.2.2.2.2.2.2.2.2.2.2.2.2.2.1 r.2.2.2.2.2.2.2.2.2.2.2.2.2.2.2.2.2.2.2.2.2.2.1 r.2.2.2.2.2.2.2.2.2.2.2.2.2.2.2.2.2.2.2.2.2.2.2.2.1 r.2.2.2.2.2.2.2.2.2.2.2.2.2.2.2.2.2.2.2.2.2.2.2.2.2.2.1 r.2.2.2.2.2.2.2.2.2.2.2.2.2.2.2.2.2.2.2.2.2.2.2.2.2.2.2.1 r.2.2.2.2.2.2.2.2.2.2.2.2.2.2.2.2.2.2.2.2.2.2.2.2.2.2.2.2.2.1 r.2.2.2.2.2.2.2.2.2.2.2.2.2.2.2.2.2.2.2.2.2.2.2.2.2.2.2.2.2.2.2.1 r.2.2.2.2.2.2.2.2.2.2.2.2.2.2.2.2.2.2.2.2.2.2.2.2.2.2.2.2.2.2.2.2.1 r.2.2.2.2.2.2.2.2.2.2.2.2.2.2.2.2.2.2.2.2.2.2.2.2.2.2.2.2.2.2.2.2.2.2.2.2.1 r.2.2.2.2.2.2.2.2.2.2.2.2.2.2.2.2.2.2.2.2.2.2.2.2.2.2.2.2.2.2.2.2.2.2.2.2.2.2.1 r.2.2.2.2.2.2.2.2.2.2.2.2.2.2.2.2.2.2.2.2.2.2.2.2.2.2.2.2.2.2.2.2.2.2.2.2.2.2.2.2.2.1 r.2.2.2.2.2.2.2.2.2.1 r.2.2.2.2.2.2.2.2.2.2.2.2.2.2.2.2.2.2.1 r.2.2.2.2.2.2.2.2.2.2.2.2.2.2.2.2.2.2.2.2.1 r.2.2.2.2.2.2.2.2.2.2.2.2.2.2.2.2.2.2.2.2.2.2.2.1 r.2.2.2.2.2.2.2.2.2.2.2.2.2.2.2.2.2.2.2.2.2.2.2.2.2.1 r.2.2.2.2.2.2.2.2.2.2.2.2.2.2.2.2.2.2.2.2.2.2.2.2.2.2.2.2.1 r.2.2.2.2.2.2.2.2.2.2.2.2.2.2.2.2.2.2.2.2.2.2.2.2.2.2.2.2.2.2.1 r.2.2.2.2.2.2.2.2.2.2.2.2.2.2.2.2.2.2.2.2.2.2.2.2.2.2.2.2.2.2.2.2.2.1 r.2.2.2.2.2.2.2.2.2.2.2.2.2.2.2.2.2.2.2.2.2.2.2.2.2.2.2.2.2.2.2.2.2.2.2.2.2.1 r.2.2.2.2.2.2.2.2.2.2.2.2.2.2.2.2.2.2.2.2.2.2.2.2.2.2.2.2.2.2.2.2.2.2.2.2.2.2.2.1 r.2.2.2.2.2.2.2.2.2.2.2.2.2.2.2.2.2.2.2.2.2.2.2.2.2.2.2.2.2.2.2.2.2.2.2.2.2.2.2.2.1 r.2.2.2.2.2.2.2.2.2.2.2.2.2.2.1 r.2.2.2.2.2.2.2.2.2.2.2.2.2.2.2.2.2.2.2.2.2.1 (by decide)
        rw [hxl] at hs
        exact ⟨_, _, _, _, _, _, _, _, _, _, _, _, _, _, _, _, _, _, _, _, _, _, _, _, _, _, _, _, _, _, _, _, _, _, _, _, _, _, _, _, _, _, _, _, _, _, hs, hL4, hL5, hBT', Or.inr (Or.inr (Or.inr ⟨rfl, hc4, by rw [hp4]⟩))⟩
set_option maxRecDepth 10000 in
theorem tfmt_loop {X : List Int32} (hX1 : X.length ≤ 1000) {xl xo : Int32} {xc : Nat → Int32} (hX : BY 1000 xl xo xc X) {A : List AgT} {kc : Nat → Int32} {vc : Nat → Int64} {tl tv : Nat → Int32} {tc : Nat → Nat → Int32} (hA : AGC kc vc tl tv tc A) {L : List Nat} {fcv ffl fwd fpr fix pc_ ac_ : Nat → Int32} (hF : FMC X A L fcv ffl fwd fpr fix pc_ ac_) (sel : Nat) (epr : Int32) :
    ∀ (d n i fr : Nat) (nx sm : Int) (E R : List Int32) (co pl : Int) (rln rov : Int32) (rrc : Nat → Int32) (up0 fl0 hl0 bl0 le0 cl0 ds dp pr0 na ng inf q0 op vs us ws ts es ep rs bo0 wd0 zr0 ns ho0 : Int32) (dd vl ul wl tl_ ed rl hc bc nl ch : Nat → Int32) (c0 : Int64) (si : Nat), i + d = L.length → d < n → fr ≤ X.length → (nA X L 0 (-1)).drop i = nA X (L.drop i) nx sm → 0 ≤ nx → nx ≤ i → -1 ≤ sm → sm ≤ 10000 → RF X A (L.drop i) fr nx sm E co pl R → E.length ≤ 32768 → BY 32768 rln rov rrc E → LN hl0 → LN bl0 →
    ∃ (oc : Int32) (fr' : Nat) (T : List Int32) (rln' rov' plc' : Int32) (rrc' : Nat → Int32) (up0' fl0' hl0' bl0' le0' cl0' ds' dp' pr0' na' ng' inf' q0' op' vs' us' ws' ts' es' ep' rs' bo0' wd0' zr0' ns' ho0' : Int32) (dd' vl' ul' wl' tl_' ed' rl' hc' bc' nl' ch' : Nat → Int32) (c0' : Int64) (si' : Nat), t_Nt_format_65 n 0 (iI fr) (iI i) 32768 1000 4 10600 sel epr rln (iI L.length) xl xc rov pc_ fcv ffl fwd fpr up0 fl0 hl0 bl0 fix le0 (iI A.length) kc vc cl0 ds dp dd pr0 na ng inf c0 q0 op vs vl us ul si ws wl ts tl_ es ep ed rs rl bo0 wd0 hc zr0 bc ns nl ch ac_ (-1) rrc ho0 tl tv tc = t_Nt_format_163 oc (iI fr') 32768 1000 4 10600 sel epr rln' (iI L.length) xl xc rov' pc_ fcv ffl fwd fpr up0' fl0' hl0' bl0' fix le0' (iI A.length) kc vc cl0' ds' dp' dd' pr0' na' ng' inf' c0' q0' op' vs' vl' us' ul' si' ws' wl' ts' tl_' es' ep' ed' rs' rl' bo0' wd0' hc' zr0' bc' ns' nl' ch' ac_ plc' rrc' ho0' tl tv tc ∧ LN hl0' ∧ LN bl0' ∧ BY 32768 rln' rov' rrc' T ∧
      ((oc = 0 ∧ plc' = -1 ∧ fr' ≤ X.length ∧ ∃ nx' sm', RF X A [] fr' nx' sm' T co pl R) ∨ (oc = 3 ∧ co = 5 ∧ pl = -1 ∧ plc' = -1) ∨ (oc = 1 ∧ co = 3 ∧ plc' = iI pl) ∨ (oc = 2 ∧ co = 4 ∧ plc' = iI pl)) := by
  have hxl : xl = iI (X.length : Int) := by rw [hX.1]; congr 2; omega
  have hLle := hF.le
  intro d
  induction d with
  | zero =>
    intro n i fr nx sm E R co pl rln rov rrc up0 fl0 hl0 bl0 le0 cl0 ds dp pr0 na ng inf q0 op vs us ws ts es ep rs bo0 wd0 zr0 ns ho0 dd vl ul wl tl_ ed rl hc bc nl ch c0 si hid hn hfr hna n0 n1 s0 s1 hR hE hB hh hb
    obtain ⟨n, rfl⟩ : ∃ x, n = x + 1 := ⟨n - 1, by omega⟩
    rw [List.drop_of_length_le (by omega)] at hR
    unfold t_Nt_format_65
    rw [if_pos (show iI (L.length : Int) ≤ iI (i : Int) from by simp (disch := omega) only [iI_lit, iL_lit, iI_add, iI_sub, iI_mul, iI_neg, iL_add, iL_sub, iL_mul, iL_neg, iI_lt, iI_le, iI_eq, iL_lt, iL_le, iL_eqS, iI_c, iI_ok, iI_l, iL_i, iI_low, l_ushrI, l_shlI, l_shrI, i_shlI, i_shrI, i_ushrI, iI_div, iL_div, Int.toNat_natCast, Int.reduceToNat, iI_ofNat]; omega)]
    exact ⟨_, fr, E, _, _, _, _, _, _, _, _, _, _, _, _, _, _, _, _, _, _, _, _, _, _, _, _, _, _, _, _, _, _, _, _, _, _, _, _, _, _, _, _, _, _, _, rfl, hh, hb, hB, Or.inl ⟨rfl, rfl, hfr, nx, sm, hR⟩⟩
  | succ d ih =>
    intro n i fr nx sm E R co pl rln rov rrc up0 fl0 hl0 bl0 le0 cl0 ds dp pr0 na ng inf q0 op vs us ws ts es ep rs bo0 wd0 zr0 ns ho0 dd vl ul wl tl_ ed rl hc bc nl ch c0 si hid hn hfr hna n0 n1 s0 s1 hR hE hB hh hb
    obtain ⟨n, rfl⟩ : ∃ x, n = x + 1 := ⟨n - 1, by omega⟩
    have hiL : i < L.length := by omega
    have hok : gx_ok (iI (i : Int)) 500 = true := by simp (disch := omega) only [iI_lit, iL_lit, iI_add, iI_sub, iI_mul, iI_neg, iL_add, iL_sub, iL_mul, iL_neg, iI_lt, iI_le, iI_eq, iL_lt, iL_le, iL_eqS, iI_c, iI_ok, iI_l, iL_i, iI_low, l_ushrI, l_shlI, l_shrI, i_shlI, i_shrI, i_ushrI, iI_div, iL_div, Int.toNat_natCast, Int.reduceToNat, iI_ofNat]; omega
    have hdr := List.drop_eq_getElem_cons hiL
    have hg := List.getElem?_eq_getElem hiL
    obtain ⟨hkX, hDOK⟩ := hF.g _ (List.getElem_mem hiL)
    have hnb := hF.b _ (List.getElem_mem hiL)
    have f2 := hF.f i _ hg
    obtain ⟨aa, ha1, haa, hna'⟩ := nA_step hdr hna
    obtain ⟨a2, ha2, hfx⟩ := f2.x
    rw [ha1] at ha2
    cases ha2
    have f3 : FM3 X fwd fix fpr fcv ffl i L[i] aa := ⟨f2.w, hfx, f2.p, f2.c, f2.f⟩
    have hin := DOK_in hDOK
    rw [hdr] at hR
    -- after a directive that ends the loop
    have stop : ∀ (oc : Int32) (fr' : Nat) (T : List Int32) (rln' rov' plc' : Int32) (rrc' : Nat → Int32) (up0' fl0' hl0' bl0' le0' cl0' ds' dp' pr0' na' ng' inf' q0' op' vs' us' ws' ts' es' ep' rs' bo0' wd0' zr0' ns' ho0' : Int32) (dd' vl' ul' wl' tl_' ed' rl' hc' bc' nl' ch' : Nat → Int32) (c0' : Int64) (si' : Nat), oc ≠ 0 → t_Nt_format_65 n oc (iI fr') (iI i + 1) 32768 1000 4 10600 sel epr rln' (iI L.length) xl xc rov' pc_ fcv ffl fwd fpr up0' fl0' hl0' bl0' fix le0' (iI A.length) kc vc cl0' ds' dp' dd' pr0' na' ng' inf' c0' q0' op' vs' vl' us' ul' si' ws' wl' ts' tl_' es' ep' ed' rs' rl' bo0' wd0' hc' zr0' bc' ns' nl' ch' ac_ plc' rrc' ho0' tl tv tc = t_Nt_format_163 oc (iI fr') 32768 1000 4 10600 sel epr rln' (iI L.length) xl xc rov' pc_ fcv ffl fwd fpr up0' fl0' hl0' bl0' fix le0' (iI A.length) kc vc cl0' ds' dp' dd' pr0' na' ng' inf' c0' q0' op' vs' vl' us' ul' si' ws' wl' ts' tl_' es' ep' ed' rs' rl' bo0' wd0' hc' zr0' bc' ns' nl' ch' ac_ plc' rrc' ho0' tl tv tc := by
      intro oc fr' T rln' rov' plc' rrc' up0' fl0' hl0' bl0' le0' cl0' ds' dp' pr0' na' ng' inf' q0' op' vs' us' ws' ts' es' ep' rs' bo0' wd0' zr0' ns' ho0' dd' vl' ul' wl' tl_' ed' rl' hc' bc' nl' ch' c0' si' hoc
      obtain ⟨n, rfl⟩ : ∃ x, n = x + 1 := ⟨n - 1, by omega⟩
      unfold t_Nt_format_65
      rw [e1N]
      by_cases z : L.length ≤ i + 1
      · rw [if_pos (show iI (L.length : Int) ≤ iI ((i + 1 : Nat) : Int) from by simp (disch := omega) only [iI_lit, iL_lit, iI_add, iI_sub, iI_mul, iI_neg, iL_add, iL_sub, iL_mul, iL_neg, iI_lt, iI_le, iI_eq, iL_lt, iL_le, iL_eqS, iI_c, iI_ok, iI_l, iL_i, iI_low, l_ushrI, l_shlI, l_shrI, i_shlI, i_shrI, i_ushrI, iI_div, iL_div, Int.toNat_natCast, Int.reduceToNat, iI_ofNat]; omega)]
      · rw [if_neg (show ¬ iI (L.length : Int) ≤ iI ((i + 1 : Nat) : Int) from by simp (disch := omega) only [iI_lit, iL_lit, iI_add, iI_sub, iI_mul, iI_neg, iL_add, iL_sub, iL_mul, iL_neg, iI_lt, iI_le, iI_eq, iL_lt, iL_le, iL_eqS, iI_c, iI_ok, iI_l, iL_i, iI_low, l_ushrI, l_shlI, l_shrI, i_shlI, i_shrI, i_ushrI, iI_div, iL_div, Int.toNat_natCast, Int.reduceToNat, iI_ofNat]; omega), if_neg hoc]
    unfold t_Nt_format_65
    rw [if_neg (show ¬ iI (L.length : Int) ≤ iI (i : Int) from by simp (disch := omega) only [iI_lit, iL_lit, iI_add, iI_sub, iI_mul, iI_neg, iL_add, iL_sub, iL_mul, iL_neg, iI_lt, iI_le, iI_eq, iL_lt, iL_le, iL_eqS, iI_c, iI_ok, iI_l, iL_i, iI_low, l_ushrI, l_shlI, l_shrI, i_shlI, i_shrI, i_ushrI, iI_div, iL_div, Int.toNat_natCast, Int.reduceToNat, iI_ofNat]; omega), if_pos rfl, if_pos hok, iI_c (by omega) (by omega), Int.toNat_natCast, f2.l]
    obtain ⟨l1, o1, c1, e1, b1⟩ := apart_spec (n := 32768) (n2 := 1000) (by omega) (by omega) hB hX (f := (fr : Int)) (t := ((L[i] : Nat) : Int)) (by omega) (by omega) (by omega) (by omega)
    rw [hxl] at e1 ⊢
    rw [e1, Option.bind_some]
    dsimp only
    rw [List.take_of_length_le hX1, Int.toNat_natCast, Int.toNat_natCast] at b1
    have ho1 := b1.2.1
    unfold t_Nt_format_122 t_Nt_format_134 t_Nt_format_145
    simp only [if_pos hok]
    rw [iI_c (by omega) (by omega), Int.toNat_natCast, f2.l, f2.a]
    by_cases qo : 32768 < (E ++ (X.take L[i]).drop fr).length
    · rw [if_pos qo] at ho1
      rw [if_neg (show ¬ o1 = 0 from by rw [ho1]; decide), if_neg (show ¬ (3 : Int32) = 1 from by decide), if_neg (show ¬ (3 : Int32) = 2 from by decide)]
      have hco : co = 5 ∧ pl = -1 := by unfold RF at hR; rw [if_pos qo] at hR; exact hR
      have hs := stop 3 (dP3 X (L[i] + 1) + 1) [] l1 o1 (-1) c1 up0 fl0 hl0 bl0 le0 cl0 ds dp pr0 na ng inf q0 op vs us ws ts es ep rs bo0 wd0 zr0 ns ho0 dd vl ul wl tl_ ed rl hc bc nl ch c0 si (by decide)
      rw [hxl] at hs
      exact ⟨_, _, _, _, _, _, _, _, _, _, _, _, _, _, _, _, _, _, _, _, _, _, _, _, _, _, _, _, _, _, _, _, _, _, _, _, _, _, _, _, _, _, _, _, _, _, hs, hh, hb, b1, Or.inr (Or.inl ⟨rfl, hco.1, hco.2, rfl⟩)⟩
    · rw [if_neg qo] at ho1
      rw [if_pos (show o1 = 0 from by rw [ho1]; rfl)]
      obtain ⟨r, er, hL4, hL5, T', hBT', hcase⟩ := wd_step hX1 hkX hDOK hnb n0 (by omega) s0 s1 (by omega) haa f3 hA hR rfl (by omega) b1 hh hb up0 fl0 le0 cl0 pr0 bo0 wd0 zr0 ho0 hc bc na ng inf q0 op vs us ws ts es ep rs ds dp ns c0 si vl ul wl tl_ ed rl dd nl ch
      rw [er, Option.bind_some]
      rcases hcase with ⟨h0, hTl, nx', sm', hR', hnx, hsm⟩ | ⟨h3, hc5, hp5⟩ | ⟨h1, hc3, hp3⟩ | ⟨h2, hc4, hp4⟩
      · rw [h0, if_neg (show ¬ (0 : Int32) = 1 from by decide), if_neg (show ¬ (0 : Int32) = 2 from by decide), e1N]
        have hP := dP_b (X := X) (p := L[i] + 1) (by omega)
        rw [← hnx, ← hsm] at hna'
        obtain ⟨t1, t2, t3, t4⟩ := tk_b (X := X) (k := L[i]) hkX n0 s0 s1 (b := (i : Int)) n1 (by omega)
        have hb1 : 0 ≤ nx' ∧ nx' ≤ (i : Int) + 1 := by rw [hnx]; split <;> omega
        have hb2 : -1 ≤ sm' ∧ sm' ≤ 10000 := by rw [hsm]; split <;> omega
        have := ih n (i + 1) (dP3 X (L[i] + 1) + 1) nx' sm' T' R co pl r.2.2.2.2.2.2.2.2.2.2.2.2.2.2.2.2.2.2.2.2.2.2.2.2.2.2.2.2.2.2.2.2.2.2.1 r.2.2.2.2.2.2.2.2.2.2.2.2.2.2.2.2.2.2.2.2.2.2.2.2.2.2.2.2.2.2.2.2.2.2.2.1 r.2.2.2.2.2.2.2.2.2.2.2.2.2.2.2.2.2.2.2.2.2.2.2.2.2.2.2.2.2.2.2.2.2.2.2.2.2.2.2.2.2.2 r.2.1 r.2.2.1 r.2.2.2.1 r.2.2.2.2.1 r.2.2.2.2.2.1 r.2.2.2.2.2.2.1 r.2.2.2.2.2.2.2.1 r.2.2.2.2.2.2.2.2.1 r.2.2.2.2.2.2.2.2.2.2.1 r.2.2.2.2.2.2.2.2.2.2.2.1 r.2.2.2.2.2.2.2.2.2.2.2.2.1 r.2.2.2.2.2.2.2.2.2.2.2.2.2.1 r.2.2.2.2.2.2.2.2.2.2.2.2.2.2.2.1 r.2.2.2.2.2.2.2.2.2.2.2.2.2.2.2.2.1 r.2.2.2.2.2.2.2.2.2.2.2.2.2.2.2.2.2.1 r.2.2.2.2.2.2.2.2.2.2.2.2.2.2.2.2.2.2.2.1 r.2.2.2.2.2.2.2.2.2.2.2.2.2.2.2.2.2.2.2.2.2.2.1 r.2.2.2.2.2.2.2.2.2.2.2.2.2.2.2.2.2.2.2.2.2.2.2.2.1 r.2.2.2.2.2.2.2.2.2.2.2.2.2.2.2.2.2.2.2.2.2.2.2.2.2.2.1 r.2.2.2.2.2.2.2.2.2.2.2.2.2.2.2.2.2.2.2.2.2.2.2.2.2.2.2.1 r.2.2.2.2.2.2.2.2.2.2.2.2.2.2.2.2.2.2.2.2.2.2.2.2.2.2.2.2.2.1 r.2.2.2.2.2.2.2.2.2.2.2.2.2.2.2.2.2.2.2.2.2.2.2.2.2.2.2.2.2.2.2.1 r.2.2.2.2.2.2.2.2.2.2.2.2.2.2.2.2.2.2.2.2.2.2.2.2.2.2.2.2.2.2.2.2.1 r.2.2.2.2.2.2.2.2.2.2.2.2.2.2.2.2.2.2.2.2.2.2.2.2.2.2.2.2.2.2.2.2.2.2.2.2.1 r.2.2.2.2.2.2.2.2.2.2.2.2.2.2.2.2.2.2.2.2.2.2.2.2.2.2.2.2.2.2.2.2.2.2.2.2.2.2.1 r.2.2.2.2.2.2.2.2.2.2.2.2.2.2.2.2.2.2.2.2.2.2.2.2.2.2.2.2.2.2.2.2.2.2.2.2.2.2.2.2.2.1 r.2.2.2.2.2.2.2.2.2.1 r.2.2.2.2.2.2.2.2.2.2.2.2.2.2.2.2.2.2.1 r.2.2.2.2.2.2.2.2.2.2.2.2.2.2.2.2.2.2.2.2.1 r.2.2.2.2.2.2.2.2.2.2.2.2.2.2.2.2.2.2.2.2.2.2.2.1 r.2.2.2.2.2.2.2.2.2.2.2.2.2.2.2.2.2.2.2.2.2.2.2.2.2.1 r.2.2.2.2.2.2.2.2.2.2.2.2.2.2.2.2.2.2.2.2.2.2.2.2.2.2.2.2.1 r.2.2.2.2.2.2.2.2.2.2.2.2.2.2.2.2.2.2.2.2.2.2.2.2.2.2.2.2.2.2.1 r.2.2.2.2.2.2.2.2.2.2.2.2.2.2.2.2.2.2.2.2.2.2.2.2.2.2.2.2.2.2.2.2.2.1 r.2.2.2.2.2.2.2.2.2.2.2.2.2.2.2.2.2.2.2.2.2.2.2.2.2.2.2.2.2.2.2.2.2.2.2.2.2.1 r.2.2.2.2.2.2.2.2.2.2.2.2.2.2.2.2.2.2.2.2.2.2.2.2.2.2.2.2.2.2.2.2.2.2.2.2.2.2.2.1 r.2.2.2.2.2.2.2.2.2.2.2.2.2.2.2.2.2.2.2.2.2.2.2.2.2.2.2.2.2.2.2.2.2.2.2.2.2.2.2.2.1 r.2.2.2.2.2.2.2.2.2.2.2.2.2.2.1 r.2.2.2.2.2.2.2.2.2.2.2.2.2.2.2.2.2.2.2.2.2.1 (by omega) (by omega) (by omega) hna' hb1.1 (by omega) hb2.1 hb2.2 hR' hTl hBT' hL4 hL5
        rw [hxl] at this
        exact this
      · rw [h3, if_neg (show ¬ (3 : Int32) = 1 from by decide), if_neg (show ¬ (3 : Int32) = 2 from by decide)]
        have hs := stop 3 (dP3 X (L[i] + 1) + 1) [] r.2.2.2.2.2.2.2.2.2.2.2.2.2.2.2.2.2.2.2.2.2.2.2.2.2.2.2.2.2.2.2.2.2.2.1 r.2.2.2.2.2.2.2.2.2.2.2.2.2.2.2.2.2.2.2.2.2.2.2.2.2.2.2.2.2.2.2.2.2.2.2.1 (-1) r.2.2.2.2.2.2.2.2.2.2.2.2.2.2.2.2.2.2.2.2.2.2.2.2.2.2.2.2.2.2.2.2.2.2.2.2.2.2.2.2.2.2 r.2.1 r.2.2.1 r.2.2.2.1 r.2.2.2.2.1 r.2.2.2.2.2.1 r.2.2.2.2.2.2.1 r.2.2.2.2.2.2.2.1 r.2.2.2.2.2.2.2.2.1 r.2.2.2.2.2.2.2.2.2.2.1 r.2.2.2.2.2.2.2.2.2.2.2.1 r.2.2.2.2.2.2.2.2.2.2.2.2.1 r.2.2.2.2.2.2.2.2.2.2.2.2.2.1 r.2.2.2.2.2.2.2.2.2.2.2.2.2.2.2.1 r.2.2.2.2.2.2.2.2.2.2.2.2.2.2.2.2.1 r.2.2.2.2.2.2.2.2.2.2.2.2.2.2.2.2.2.1 r.2.2.2.2.2.2.2.2.2.2.2.2.2.2.2.2.2.2.2.1 r.2.2.2.2.2.2.2.2.2.2.2.2.2.2.2.2.2.2.2.2.2.2.1 r.2.2.2.2.2.2.2.2.2.2.2.2.2.2.2.2.2.2.2.2.2.2.2.2.1 r.2.2.2.2.2.2.2.2.2.2.2.2.2.2.2.2.2.2.2.2.2.2.2.2.2.2.1 r.2.2.2.2.2.2.2.2.2.2.2.2.2.2.2.2.2.2.2.2.2.2.2.2.2.2.2.1 r.2.2.2.2.2.2.2.2.2.2.2.2.2.2.2.2.2.2.2.2.2.2.2.2.2.2.2.2.2.1 r.2.2.2.2.2.2.2.2.2.2.2.2.2.2.2.2.2.2.2.2.2.2.2.2.2.2.2.2.2.2.2.1 r.2.2.2.2.2.2.2.2.2.2.2.2.2.2.2.2.2.2.2.2.2.2.2.2.2.2.2.2.2.2.2.2.1 r.2.2.2.2.2.2.2.2.2.2.2.2.2.2.2.2.2.2.2.2.2.2.2.2.2.2.2.2.2.2.2.2.2.2.2.2.1 r.2.2.2.2.2.2.2.2.2.2.2.2.2.2.2.2.2.2.2.2.2.2.2.2.2.2.2.2.2.2.2.2.2.2.2.2.2.2.1 r.2.2.2.2.2.2.2.2.2.2.2.2.2.2.2.2.2.2.2.2.2.2.2.2.2.2.2.2.2.2.2.2.2.2.2.2.2.2.2.2.2.1 r.2.2.2.2.2.2.2.2.2.1 r.2.2.2.2.2.2.2.2.2.2.2.2.2.2.2.2.2.2.1 r.2.2.2.2.2.2.2.2.2.2.2.2.2.2.2.2.2.2.2.2.1 r.2.2.2.2.2.2.2.2.2.2.2.2.2.2.2.2.2.2.2.2.2.2.2.1 r.2.2.2.2.2.2.2.2.2.2.2.2.2.2.2.2.2.2.2.2.2.2.2.2.2.1 r.2.2.2.2.2.2.2.2.2.2.2.2.2.2.2.2.2.2.2.2.2.2.2.2.2.2.2.2.1 r.2.2.2.2.2.2.2.2.2.2.2.2.2.2.2.2.2.2.2.2.2.2.2.2.2.2.2.2.2.2.1 r.2.2.2.2.2.2.2.2.2.2.2.2.2.2.2.2.2.2.2.2.2.2.2.2.2.2.2.2.2.2.2.2.2.1 r.2.2.2.2.2.2.2.2.2.2.2.2.2.2.2.2.2.2.2.2.2.2.2.2.2.2.2.2.2.2.2.2.2.2.2.2.2.1 r.2.2.2.2.2.2.2.2.2.2.2.2.2.2.2.2.2.2.2.2.2.2.2.2.2.2.2.2.2.2.2.2.2.2.2.2.2.2.2.1 r.2.2.2.2.2.2.2.2.2.2.2.2.2.2.2.2.2.2.2.2.2.2.2.2.2.2.2.2.2.2.2.2.2.2.2.2.2.2.2.2.1 r.2.2.2.2.2.2.2.2.2.2.2.2.2.2.1 r.2.2.2.2.2.2.2.2.2.2.2.2.2.2.2.2.2.2.2.2.2.1 (by decide)
        rw [hxl] at hs
        exact ⟨_, _, _, _, _, _, _, _, _, _, _, _, _, _, _, _, _, _, _, _, _, _, _, _, _, _, _, _, _, _, _, _, _, _, _, _, _, _, _, _, _, _, _, _, _, _, hs, hL4, hL5, hBT', Or.inr (Or.inl ⟨rfl, hc5, hp5, rfl⟩)⟩
      · rw [h1, if_pos rfl]
        have hs := stop 1 (dP3 X (L[i] + 1) + 1) [] r.2.2.2.2.2.2.2.2.2.2.2.2.2.2.2.2.2.2.2.2.2.2.2.2.2.2.2.2.2.2.2.2.2.2.1 r.2.2.2.2.2.2.2.2.2.2.2.2.2.2.2.2.2.2.2.2.2.2.2.2.2.2.2.2.2.2.2.2.2.2.2.1 (iI ((L[i] : Nat) : Int)) r.2.2.2.2.2.2.2.2.2.2.2.2.2.2.2.2.2.2.2.2.2.2.2.2.2.2.2.2.2.2.2.2.2.2.2.2.2.2.2.2.2.2 r.2.1 r.2.2.1 r.2.2.2.1 r.2.2.2.2.1 r.2.2.2.2.2.1 r.2.2.2.2.2.2.1 r.2.2.2.2.2.2.2.1 r.2.2.2.2.2.2.2.2.1 r.2.2.2.2.2.2.2.2.2.2.1 r.2.2.2.2.2.2.2.2.2.2.2.1 r.2.2.2.2.2.2.2.2.2.2.2.2.1 r.2.2.2.2.2.2.2.2.2.2.2.2.2.1 r.2.2.2.2.2.2.2.2.2.2.2.2.2.2.2.1 r.2.2.2.2.2.2.2.2.2.2.2.2.2.2.2.2.1 r.2.2.2.2.2.2.2.2.2.2.2.2.2.2.2.2.2.1 r.2.2.2.2.2.2.2.2.2.2.2.2.2.2.2.2.2.2.2.1 r.2.2.2.2.2.2.2.2.2.2.2.2.2.2.2.2.2.2.2.2.2.2.1 r.2.2.2.2.2.2.2.2.2.2.2.2.2.2.2.2.2.2.2.2.2.2.2.2.1 r.2.2.2.2.2.2.2.2.2.2.2.2.2.2.2.2.2.2.2.2.2.2.2.2.2.2.1 r.2.2.2.2.2.2.2.2.2.2.2.2.2.2.2.2.2.2.2.2.2.2.2.2.2.2.2.1 r.2.2.2.2.2.2.2.2.2.2.2.2.2.2.2.2.2.2.2.2.2.2.2.2.2.2.2.2.2.1 r.2.2.2.2.2.2.2.2.2.2.2.2.2.2.2.2.2.2.2.2.2.2.2.2.2.2.2.2.2.2.2.1 r.2.2.2.2.2.2.2.2.2.2.2.2.2.2.2.2.2.2.2.2.2.2.2.2.2.2.2.2.2.2.2.2.1 r.2.2.2.2.2.2.2.2.2.2.2.2.2.2.2.2.2.2.2.2.2.2.2.2.2.2.2.2.2.2.2.2.2.2.2.2.1 r.2.2.2.2.2.2.2.2.2.2.2.2.2.2.2.2.2.2.2.2.2.2.2.2.2.2.2.2.2.2.2.2.2.2.2.2.2.2.1 r.2.2.2.2.2.2.2.2.2.2.2.2.2.2.2.2.2.2.2.2.2.2.2.2.2.2.2.2.2.2.2.2.2.2.2.2.2.2.2.2.2.1 r.2.2.2.2.2.2.2.2.2.1 r.2.2.2.2.2.2.2.2.2.2.2.2.2.2.2.2.2.2.1 r.2.2.2.2.2.2.2.2.2.2.2.2.2.2.2.2.2.2.2.2.1 r.2.2.2.2.2.2.2.2.2.2.2.2.2.2.2.2.2.2.2.2.2.2.2.1 r.2.2.2.2.2.2.2.2.2.2.2.2.2.2.2.2.2.2.2.2.2.2.2.2.2.1 r.2.2.2.2.2.2.2.2.2.2.2.2.2.2.2.2.2.2.2.2.2.2.2.2.2.2.2.2.1 r.2.2.2.2.2.2.2.2.2.2.2.2.2.2.2.2.2.2.2.2.2.2.2.2.2.2.2.2.2.2.1 r.2.2.2.2.2.2.2.2.2.2.2.2.2.2.2.2.2.2.2.2.2.2.2.2.2.2.2.2.2.2.2.2.2.1 r.2.2.2.2.2.2.2.2.2.2.2.2.2.2.2.2.2.2.2.2.2.2.2.2.2.2.2.2.2.2.2.2.2.2.2.2.2.1 r.2.2.2.2.2.2.2.2.2.2.2.2.2.2.2.2.2.2.2.2.2.2.2.2.2.2.2.2.2.2.2.2.2.2.2.2.2.2.2.1 r.2.2.2.2.2.2.2.2.2.2.2.2.2.2.2.2.2.2.2.2.2.2.2.2.2.2.2.2.2.2.2.2.2.2.2.2.2.2.2.2.1 r.2.2.2.2.2.2.2.2.2.2.2.2.2.2.1 r.2.2.2.2.2.2.2.2.2.2.2.2.2.2.2.2.2.2.2.2.2.1 (by decide)
        rw [hxl] at hs
        exact ⟨_, _, _, _, _, _, _, _, _, _, _, _, _, _, _, _, _, _, _, _, _, _, _, _, _, _, _, _, _, _, _, _, _, _, _, _, _, _, _, _, _, _, _, _, _, _, hs, hL4, hL5, hBT', Or.inr (Or.inr (Or.inl ⟨rfl, hc3, by rw [hp3]⟩))⟩
      · rw [h2, if_neg (show ¬ (2 : Int32) = 1 from by decide), if_pos rfl]
        have hs := stop 2 (dP3 X (L[i] + 1) + 1) [] r.2.2.2.2.2.2.2.2.2.2.2.2.2.2.2.2.2.2.2.2.2.2.2.2.2.2.2.2.2.2.2.2.2.2.1 r.2.2.2.2.2.2.2.2.2.2.2.2.2.2.2.2.2.2.2.2.2.2.2.2.2.2.2.2.2.2.2.2.2.2.2.1 (iI ((L[i] : Nat) : Int)) r.2.2.2.2.2.2.2.2.2.2.2.2.2.2.2.2.2.2.2.2.2.2.2.2.2.2.2.2.2.2.2.2.2.2.2.2.2.2.2.2.2.2 r.2.1 r.2.2.1 r.2.2.2.1 r.2.2.2.2.1 r.2.2.2.2.2.1 r.2.2.2.2.2.2.1 r.2.2.2.2.2.2.2.1 r.2.2.2.2.2.2.2.2.1 r.2.2.2.2.2.2.2.2.2.2.1 r.2.2.2.2.2.2.2.2.2.2.2.1 r.2.2.2.2.2.2.2.2.2.2.2.2.1 r.2.2.2.2.2.2.2.2.2.2.2.2.2.1 r.2.2.2.2.2.2.2.2.2.2.2.2.2.2.2.1 r.2.2.2.2.2.2.2.2.2.2.2.2.2.2.2.2.1 r.2.2.2.2.2.2.2.2.2.2.2.2.2.2.2.2.2.1 r.2.2.2.2.2.2.2.2.2.2.2.2.2.2.2.2.2.2.2.1 r.2.2.2.2.2.2.2.2.2.2.2.2.2.2.2.2.2.2.2.2.2.2.1 r.2.2.2.2.2.2.2.2.2.2.2.2.2.2.2.2.2.2.2.2.2.2.2.2.1 r.2.2.2.2.2.2.2.2.2.2.2.2.2.2.2.2.2.2.2.2.2.2.2.2.2.2.1 r.2.2.2.2.2.2.2.2.2.2.2.2.2.2.2.2.2.2.2.2.2.2.2.2.2.2.2.1 r.2.2.2.2.2.2.2.2.2.2.2.2.2.2.2.2.2.2.2.2.2.2.2.2.2.2.2.2.2.1 r.2.2.2.2.2.2.2.2.2.2.2.2.2.2.2.2.2.2.2.2.2.2.2.2.2.2.2.2.2.2.2.1 r.2.2.2.2.2.2.2.2.2.2.2.2.2.2.2.2.2.2.2.2.2.2.2.2.2.2.2.2.2.2.2.2.1 r.2.2.2.2.2.2.2.2.2.2.2.2.2.2.2.2.2.2.2.2.2.2.2.2.2.2.2.2.2.2.2.2.2.2.2.2.1 r.2.2.2.2.2.2.2.2.2.2.2.2.2.2.2.2.2.2.2.2.2.2.2.2.2.2.2.2.2.2.2.2.2.2.2.2.2.2.1 r.2.2.2.2.2.2.2.2.2.2.2.2.2.2.2.2.2.2.2.2.2.2.2.2.2.2.2.2.2.2.2.2.2.2.2.2.2.2.2.2.2.1 r.2.2.2.2.2.2.2.2.2.1 r.2.2.2.2.2.2.2.2.2.2.2.2.2.2.2.2.2.2.1 r.2.2.2.2.2.2.2.2.2.2.2.2.2.2.2.2.2.2.2.2.1 r.2.2.2.2.2.2.2.2.2.2.2.2.2.2.2.2.2.2.2.2.2.2.2.1 r.2.2.2.2.2.2.2.2.2.2.2.2.2.2.2.2.2.2.2.2.2.2.2.2.2.1 r.2.2.2.2.2.2.2.2.2.2.2.2.2.2.2.2.2.2.2.2.2.2.2.2.2.2.2.2.1 r.2.2.2.2.2.2.2.2.2.2.2.2.2.2.2.2.2.2.2.2.2.2.2.2.2.2.2.2.2.2.1 r.2.2.2.2.2.2.2.2.2.2.2.2.2.2.2.2.2.2.2.2.2.2.2.2.2.2.2.2.2.2.2.2.2.1 r.2.2.2.2.2.2.2.2.2.2.2.2.2.2.2.2.2.2.2.2.2.2.2.2.2.2.2.2.2.2.2.2.2.2.2.2.2.1 r.2.2.2.2.2.2.2.2.2.2.2.2.2.2.2.2.2.2.2.2.2.2.2.2.2.2.2.2.2.2.2.2.2.2.2.2.2.2.2.1 r.2.2.2.2.2.2.2.2.2.2.2.2.2.2.2.2.2.2.2.2.2.2.2.2.2.2.2.2.2.2.2.2.2.2.2.2.2.2.2.2.1 r.2.2.2.2.2.2.2.2.2.2.2.2.2.2.1 r.2.2.2.2.2.2.2.2.2.2.2.2.2.2.2.2.2.2.2.2.2.1 (by decide)
        rw [hxl] at hs
        exact ⟨_, _, _, _, _, _, _, _, _, _, _, _, _, _, _, _, _, _, _, _, _, _, _, _, _, _, _, _, _, _, _, _, _, _, _, _, _, _, _, _, _, _, _, _, _, _, hs, hL4, hL5, hBT', Or.inr (Or.inr (Or.inr ⟨rfl, hc4, by rw [hp4]⟩))⟩
-- TH
set_option maxRecDepth 10000 in
abbrev T44 := Int32 × Int32 × Int32 × Int32 × Int32 × Int32 × Int32 × Int32 × Int32 × Int32 × Int32 × (Nat → Int32) × Int32 × Int32 × Int32 × Int32 × Int64 × Int32 × Int32 × Int32 × (Nat → Int32) × Int32 × (Nat → Int32) × Nat × Int32 × (Nat → Int32) × Int32 × (Nat → Int32) × Int32 × Int32 × (Nat → Int32) × Int32 × (Nat → Int32) × Int32 × Int32 × (Nat → Int32) × Int32 × (Nat → Int32) × Int32 × (Nat → Int32) × (Nat → Int32) × Int32 × (Nat → Int32) × Int32
set_option maxRecDepth 10000 in
abbrev T44t := Nat × Int32 × Int32 × Int32 × Int32 × Int32 × Int32 × Int32 × Int32 × Int32 × Int32 × (Nat → Int32) × Int32 × Int32 × Int32 × Int32 × Int64 × Int32 × Int32 × Int32 × (Nat → Int32) × Int32 × (Nat → Int32) × Nat × Int32 × (Nat → Int32) × Int32 × (Nat → Int32) × Int32 × Int32 × (Nat → Int32) × Int32 × (Nat → Int32) × Int32 × Int32 × (Nat → Int32) × Int32 × (Nat → Int32) × Int32 × (Nat → Int32) × (Nat → Int32) × Int32 × (Nat → Int32) × Int32
set_option maxRecDepth 10000 in
def NFM (r : T44) (R : List Int32) : Prop := r.1 = iI R.length ∧ LN r.2.2.2.2.2.1 ∧ LN r.2.2.2.2.2.2.1 ∧ r.2.2.2.2.2.2.2.2.2.2.2.2.2.2.2.2.2.2.2.2.2.2.2.2.2.2.2.2.2.2.2.2.2.2.2.2.2.2.2.2.2.1 = -1 ∧ BY 32768 r.2.1 r.2.2.1 r.2.2.2.2.2.2.2.2.2.2.2.2.2.2.2.2.2.2.2.2.2.2.2.2.2.2.2.2.2.2.2.2.2.2.2.2.2.2.2.2.2.2.1 R
set_option maxRecDepth 10000 in
def NFE (r : T44t) (e : Nat) (pl : Int) : Prop := r.1 = e ∧ LN r.2.2.2.2.2.1 ∧ LN r.2.2.2.2.2.2.1 ∧ r.2.2.2.2.2.2.2.2.2.2.2.2.2.2.2.2.2.2.2.2.2.2.2.2.2.2.2.2.2.2.2.2.2.2.2.2.2.2.2.2.2.1 = iI pl ∧ BY 32768 r.2.1 r.2.2.1 r.2.2.2.2.2.2.2.2.2.2.2.2.2.2.2.2.2.2.2.2.2.2.2.2.2.2.2.2.2.2.2.2.2.2.2.2.2.2.2.2.2.2.1 []
set_option maxRecDepth 10000 in
def exO (co : Int) : Nat := if co = 3 then 4 else if co = 4 then 2 else 0
set_option maxRecDepth 10000 in
theorem f163_ok {X : List Int32} (hX1 : X.length ≤ 1000) {xl xo : Int32} {xc : Nat → Int32} (hX : BY 1000 xl xo xc X) {A : List AgT} {kc : Nat → Int32} {vc : Nat → Int64} {tl tv : Nat → Int32} {tc : Nat → Nat → Int32} (hA : AGC kc vc tl tv tc A) {L : List Nat} {fcv ffl fwd fpr fix pc_ ac_ : Nat → Int32} (hF : FMC X A L fcv ffl fwd fpr fix pc_ ac_) (sel : Nat) (epr : Int32) {fr : Nat} (hfr : fr ≤ X.length) {nx sm : Int} {T R : List Int32} {pl : Int} (hR : RF X A [] fr nx sm T 0 pl R) {rln rov : Int32} {rrc : Nat → Int32} (hB : BY 32768 rln rov rrc T) (up0 fl0 hl0 bl0 le0 cl0 ds dp pr0 na ng inf q0 op vs us ws ts es ep rs bo0 wd0 zr0 ns ho0 : Int32) (dd vl ul wl tl_ ed rl hc bc nl ch : Nat → Int32) (c0 : Int64) (si : Nat) (hh : LN hl0) (hb : LN bl0) :
    ∃ r : T44, f_Nt_format_163 0 (iI fr) 32768 1000 4 10600 sel epr rln (iI L.length) xl xc rov pc_ fcv ffl fwd fpr up0 fl0 hl0 bl0 fix le0 (iI A.length) kc vc cl0 ds dp dd pr0 na ng inf c0 q0 op vs vl us ul si ws wl ts tl_ es ep ed rs rl bo0 wd0 hc zr0 bc ns nl ch ac_ (-1) rrc ho0 tl tv tc = some r ∧ NFM r R := by
  have hxl : xl = iI (X.length : Int) := by rw [hX.1]; congr 2; omega
  unfold f_Nt_format_163
  obtain ⟨l1, o1, c1, e1, b1⟩ := apart_spec (n := 32768) (n2 := 1000) (by omega) (by omega) hB hX (f := (fr : Int)) (t := ((X.length : Nat) : Int)) (by omega) (by omega) (by omega) (by omega)
  rw [hxl] at e1 ⊢
  rw [if_pos rfl, e1, Option.bind_some]
  dsimp only
  rw [List.take_of_length_le hX1, Int.toNat_natCast, Int.toNat_natCast, List.take_of_length_le (Nat.le_refl _)] at b1
  unfold RF at hR
  by_cases q : (T ++ X.drop fr).length ≤ 32768
  · rw [if_pos q] at hR
    obtain ⟨_, _, rfl⟩ := hR
    have ho := b1.2.1
    rw [if_neg (by omega)] at ho
    rw [if_pos (show o1 = 0 from by rw [ho]; rfl)]
    unfold f_Nt_format_202 f_Nt_format_203 f_Nt_format_215
    rw [if_pos rfl, if_neg (show ¬ (0 : Int32) = 1 from by decide), if_neg (show ¬ (0 : Int32) = 2 from by decide), if_neg (show ¬ (0 : Int32) = 3 from by decide)]
    refine ⟨_, rfl, ?_, hh, hb, rfl, b1⟩
    have hl := b1.1
    rw [show min (T ++ X.drop fr).length 32768 = (T ++ X.drop fr).length by omega] at hl
    exact hl
  · rw [if_neg q] at hR
    exact absurd hR.1 (by omega)
set_option maxRecDepth 10000 in
theorem t163_er' {X : List Int32} (hX1 : X.length ≤ 1000) {xl xo : Int32} {xc : Nat → Int32} (hX : BY 1000 xl xo xc X) {A : List AgT} {kc : Nat → Int32} {vc : Nat → Int64} {tl tv : Nat → Int32} {tc : Nat → Nat → Int32} (hA : AGC kc vc tl tv tc A) {L : List Nat} {fcv ffl fwd fpr fix pc_ ac_ : Nat → Int32} (hF : FMC X A L fcv ffl fwd fpr fix pc_ ac_) (sel : Nat) (epr : Int32) {fr : Nat} {nx sm : Int} {T R : List Int32} {co pl : Int} (hco : co ≠ 0) {oc plc : Int32} (hcs : (oc = 0 ∧ plc = -1 ∧ fr ≤ X.length ∧ RF X A [] fr nx sm T co pl R) ∨ (oc = 3 ∧ co = 5 ∧ pl = -1 ∧ plc = -1) ∨ (oc = 1 ∧ co = 3 ∧ plc = iI pl) ∨ (oc = 2 ∧ co = 4 ∧ plc = iI pl)) {rln rov : Int32} {rrc : Nat → Int32} (hB : BY 32768 rln rov rrc T) (up0 fl0 hl0 bl0 le0 cl0 ds dp pr0 na ng inf q0 op vs us ws ts es ep rs bo0 wd0 zr0 ns ho0 : Int32) (dd vl ul wl tl_ ed rl hc bc nl ch : Nat → Int32) (c0 : Int64) (si : Nat) (hh : LN hl0) (hb : LN bl0) :
    ∃ r : T44t, t_Nt_format_163 oc (iI fr) 32768 1000 4 10600 sel epr rln (iI L.length) xl xc rov pc_ fcv ffl fwd fpr up0 fl0 hl0 bl0 fix le0 (iI A.length) kc vc cl0 ds dp dd pr0 na ng inf c0 q0 op vs vl us ul si ws wl ts tl_ es ep ed rs rl bo0 wd0 hc zr0 bc ns nl ch ac_ plc rrc ho0 tl tv tc = some r ∧ NFE r (exO co) pl := by
  have hxl : xl = iI (X.length : Int) := by rw [hX.1]; congr 2; omega
  have end_ : ∀ (rln rov : Int32) (rrc : Nat → Int32) (T : List Int32), BY 32768 rln rov rrc T → ∀ oc plc : Int32, ((oc = 3 ∧ co = 5 ∧ pl = -1 ∧ plc = -1) ∨ (oc = 1 ∧ co = 3 ∧ plc = iI pl) ∨ (oc = 2 ∧ co = 4 ∧ plc = iI pl)) → ∃ r : T44t, t_Nt_format_203 oc 32768 1000 4 10600 sel epr rln (iI L.length) xl xc rov pc_ fcv ffl fwd fpr up0 fl0 hl0 bl0 fix le0 (iI A.length) kc vc cl0 ds dp dd pr0 na ng inf c0 q0 op vs vl us ul si ws wl ts tl_ es ep ed rs rl bo0 wd0 hc zr0 bc ns nl ch ac_ plc rrc ho0 tl tv tc = some r ∧ NFE r (exO co) pl := by
    intro rln rov rrc T hB oc plc hcs
    have hk := keep0 hB.1 (by omega) rov
    unfold t_Nt_format_203 t_Nt_format_215
    rcases hcs with ⟨rfl, rfl, rfl, rfl⟩ | ⟨rfl, rfl, rfl⟩ | ⟨rfl, rfl, rfl⟩
    · rw [if_neg (show ¬ (3 : Int32) = 0 from by decide), hk, Option.bind_some, if_neg (show ¬ (3 : Int32) = 1 from by decide), if_neg (show ¬ (3 : Int32) = 2 from by decide), if_pos rfl]
      exact ⟨_, rfl, rfl, hh, hb, rfl, BY_nil _ _⟩
    · rw [if_neg (show ¬ (1 : Int32) = 0 from by decide), hk, Option.bind_some, if_pos rfl]
      exact ⟨_, rfl, rfl, hh, hb, rfl, BY_nil _ _⟩
    · rw [if_neg (show ¬ (2 : Int32) = 0 from by decide), hk, Option.bind_some, if_neg (show ¬ (2 : Int32) = 1 from by decide), if_pos rfl]
      exact ⟨_, rfl, rfl, hh, hb, rfl, BY_nil _ _⟩
  unfold t_Nt_format_163
  rcases hcs with ⟨rfl, rfl, hfr, hR⟩ | hcs
  · obtain ⟨l1, o1, c1, e1, b1⟩ := apart_spec (n := 32768) (n2 := 1000) (by omega) (by omega) hB hX (f := (fr : Int)) (t := ((X.length : Nat) : Int)) (by omega) (by omega) (by omega) (by omega)
    rw [← hxl] at e1
    rw [if_pos rfl, e1, Option.bind_some]
    dsimp only
    rw [List.take_of_length_le hX1, Int.toNat_natCast, Int.toNat_natCast, List.take_of_length_le (Nat.le_refl _)] at b1
    unfold RF at hR
    by_cases q : (T ++ X.drop fr).length ≤ 32768
    · rw [if_pos q] at hR
      exact absurd hR.1 hco
    · rw [if_neg q] at hR
      have ho := b1.2.1
      rw [if_pos (by omega)] at ho
      rw [if_neg (show ¬ o1 = 0 from by rw [ho]; decide)]
      unfold t_Nt_format_202
      exact end_ _ _ _ _ b1 3 (-1) (Or.inl ⟨rfl, hR.1, hR.2, rfl⟩)
  · rw [if_neg (show ¬ oc = 0 from by rcases hcs with ⟨rfl, _⟩ | ⟨rfl, _⟩ | ⟨rfl, _⟩ <;> decide)]
    exact end_ _ _ _ _ hB oc plc hcs
set_option maxRecDepth 10000 in
theorem ntformat_ok {X : List Int32} (hX1 : X.length ≤ 1000) {xl xo : Int32} {xc : Nat → Int32} (hX : BY 1000 xl xo xc X) {A : List AgT} {kc : Nat → Int32} {vc : Nat → Int64} {tl tv : Nat → Int32} {tc : Nat → Nat → Int32} (hA : AGC kc vc tl tv tc A) {L : List Nat} {fcv ffl fwd fpr fix pc_ ac_ : Nat → Int32} (hF : FMC X A L fcv ffl fwd fpr fix pc_ ac_) (epr : Int32) {f : Nat} (hf : f < 8) (hep : epr ≠ 0) {R : List Int32} {pl : Int} (hR : RF X A L 0 0 (-1) [] 0 pl R) {rln rov : Int32} (rrc : Nat → Int32) {R0 : List Int32} (hB : BY 32768 rln rov rrc R0) (plc : Int32) (up0 fl0 hl0 bl0 le0 cl0 ds dp pr0 na ng inf q0 op vs us ws ts es ep rs bo0 wd0 zr0 ns ho0 : Int32) (dd vl ul wl tl_ ed rl hc bc nl ch : Nat → Int32) (c0 : Int64) (si : Nat) (hh : LN hl0) (hb : LN bl0) :
    ∃ r : T44, f_Nt_format (iI f) 32768 1000 4 10600 f epr rln (iI L.length) xl xc rov pc_ fcv ffl fwd fpr up0 fl0 hl0 bl0 fix le0 (iI A.length) kc vc cl0 ds dp dd pr0 na ng inf c0 q0 op vs vl us ul si ws wl ts tl_ es ep ed rs rl bo0 wd0 hc zr0 bc ns nl ch ac_ plc rrc ho0 tl tv tc = some r ∧ NFM r R := by
  have hok : gx_ok (iI (f : Int)) 8 = true := by simp (disch := omega) only [iI_lit, iL_lit, iI_add, iI_sub, iI_mul, iI_neg, iL_add, iL_sub, iL_mul, iL_neg, iI_lt, iI_le, iI_eq, iL_lt, iL_le, iL_eqS, iI_c, iI_ok, iI_l, iL_i, iI_low, l_ushrI, l_shlI, l_shrI, i_shlI, i_shrI, i_ushrI, iI_div, iL_div, Int.toNat_natCast, Int.reduceToNat, iI_ofNat]; omega
  unfold f_Nt_format
  rw [if_neg (show ¬ iI (f : Int) < 0 from by simp (disch := omega) only [iI_lit, iL_lit, iI_add, iI_sub, iI_mul, iI_neg, iL_add, iL_sub, iL_mul, iL_neg, iI_lt, iI_le, iI_eq, iL_lt, iL_le, iL_eqS, iI_c, iI_ok, iI_l, iL_i, iI_low, l_ushrI, l_shlI, l_shrI, i_shlI, i_shrI, i_ushrI, iI_div, iL_div, Int.toNat_natCast, Int.reduceToNat, iI_ofNat]; omega), if_pos (show iI (f : Int) < 8 from by simp (disch := omega) only [iI_lit, iL_lit, iI_add, iI_sub, iI_mul, iI_neg, iL_add, iL_sub, iL_mul, iL_neg, iI_lt, iI_le, iI_eq, iL_lt, iL_le, iL_eqS, iI_c, iI_ok, iI_l, iL_i, iI_low, l_ushrI, l_shlI, l_shrI, i_shlI, i_shrI, i_ushrI, iI_div, iL_div, Int.toNat_natCast, Int.reduceToNat, iI_ofNat]; omega), if_pos hok, iI_c (by omega) (by omega), Int.toNat_natCast, if_pos rfl, if_neg hep, keep0 hB.1 (by omega), Option.bind_some]
  have hle := hF.le
  have key := ffmt_loop hX1 hX hA hF f epr L.length gx_fu 0 0 0 (-1) [] R 0 pl (iI 0) (iI 0) rrc up0 fl0 hl0 bl0 le0 cl0 ds dp pr0 na ng inf q0 op vs us ws ts es ep rs bo0 wd0 zr0 ns ho0 dd vl ul wl tl_ ed rl hc bc nl ch c0 si (by omega) (by have := fu_big; omega) (by omega) (by rw [List.drop_zero, List.drop_zero]) (by omega) (by omega) (by omega) (by omega) (by rw [List.drop_zero]; exact hR) (by simp) (BY_nil _ _) hh hb
  rw [show iI ((0 : Nat) : Int) = 0 from rfl] at key
  obtain ⟨oc, fr', T, rln', rov', plc', rrc', up0', fl0', hl0', bl0', le0', cl0', ds', dp', pr0', na', ng', inf', q0', op', vs', us', ws', ts', es', ep', rs', bo0', wd0', zr0', ns', ho0', dd', vl', ul', wl', tl_', ed', rl', hc', bc', nl', ch', c0', si', e, h1, h2, h3, h4⟩ := key
  rw [e]
  rcases h4 with ⟨rfl, rfl, hfr, nx', sm', hR'⟩ | ⟨_, y, _⟩ | ⟨_, y, _⟩ | ⟨_, y, _⟩
  · exact f163_ok hX1 hX hA hF f epr hfr hR' h3 up0' fl0' hl0' bl0' le0' cl0' ds' dp' pr0' na' ng' inf' q0' op' vs' us' ws' ts' es' ep' rs' bo0' wd0' zr0' ns' ho0' dd' vl' ul' wl' tl_' ed' rl' hc' bc' nl' ch' c0' si' h1 h2
  · omega
  · omega
  · omega
set_option maxRecDepth 10000 in
theorem ntformat_er {X : List Int32} (hX1 : X.length ≤ 1000) {xl xo : Int32} {xc : Nat → Int32} (hX : BY 1000 xl xo xc X) {A : List AgT} {kc : Nat → Int32} {vc : Nat → Int64} {tl tv : Nat → Int32} {tc : Nat → Nat → Int32} (hA : AGC kc vc tl tv tc A) {L : List Nat} {fcv ffl fwd fpr fix pc_ ac_ : Nat → Int32} (hF : FMC X A L fcv ffl fwd fpr fix pc_ ac_) (epr : Int32) {f : Nat} (hf : f < 8) (hep : epr ≠ 0) {R : List Int32} {co pl : Int} (hco : co ≠ 0) (hR : RF X A L 0 0 (-1) [] co pl R) {rln rov : Int32} (rrc : Nat → Int32) {R0 : List Int32} (hB : BY 32768 rln rov rrc R0) (plc : Int32) (up0 fl0 hl0 bl0 le0 cl0 ds dp pr0 na ng inf q0 op vs us ws ts es ep rs bo0 wd0 zr0 ns ho0 : Int32) (dd vl ul wl tl_ ed rl hc bc nl ch : Nat → Int32) (c0 : Int64) (si : Nat) (hh : LN hl0) (hb : LN bl0) :
    ∃ r : T44t, t_Nt_format (iI f) 32768 1000 4 10600 f epr rln (iI L.length) xl xc rov pc_ fcv ffl fwd fpr up0 fl0 hl0 bl0 fix le0 (iI A.length) kc vc cl0 ds dp dd pr0 na ng inf c0 q0 op vs vl us ul si ws wl ts tl_ es ep ed rs rl bo0 wd0 hc zr0 bc ns nl ch ac_ plc rrc ho0 tl tv tc = some r ∧ NFE r (exO co) pl := by
  have hok : gx_ok (iI (f : Int)) 8 = true := by simp (disch := omega) only [iI_lit, iL_lit, iI_add, iI_sub, iI_mul, iI_neg, iL_add, iL_sub, iL_mul, iL_neg, iI_lt, iI_le, iI_eq, iL_lt, iL_le, iL_eqS, iI_c, iI_ok, iI_l, iL_i, iI_low, l_ushrI, l_shlI, l_shrI, i_shlI, i_shrI, i_ushrI, iI_div, iL_div, Int.toNat_natCast, Int.reduceToNat, iI_ofNat]; omega
  unfold t_Nt_format
  rw [if_neg (show ¬ iI (f : Int) < 0 from by simp (disch := omega) only [iI_lit, iL_lit, iI_add, iI_sub, iI_mul, iI_neg, iL_add, iL_sub, iL_mul, iL_neg, iI_lt, iI_le, iI_eq, iL_lt, iL_le, iL_eqS, iI_c, iI_ok, iI_l, iL_i, iI_low, l_ushrI, l_shlI, l_shrI, i_shlI, i_shrI, i_ushrI, iI_div, iL_div, Int.toNat_natCast, Int.reduceToNat, iI_ofNat]; omega), if_pos (show iI (f : Int) < 8 from by simp (disch := omega) only [iI_lit, iL_lit, iI_add, iI_sub, iI_mul, iI_neg, iL_add, iL_sub, iL_mul, iL_neg, iI_lt, iI_le, iI_eq, iL_lt, iL_le, iL_eqS, iI_c, iI_ok, iI_l, iL_i, iI_low, l_ushrI, l_shlI, l_shrI, i_shlI, i_shrI, i_ushrI, iI_div, iL_div, Int.toNat_natCast, Int.reduceToNat, iI_ofNat]; omega), if_pos hok, iI_c (by omega) (by omega), Int.toNat_natCast, if_pos rfl, if_neg hep, keep0 hB.1 (by omega), Option.bind_some]
  have hle := hF.le
  have key := tfmt_loop hX1 hX hA hF f epr L.length gx_fu 0 0 0 (-1) [] R co pl (iI 0) (iI 0) rrc up0 fl0 hl0 bl0 le0 cl0 ds dp pr0 na ng inf q0 op vs us ws ts es ep rs bo0 wd0 zr0 ns ho0 dd vl ul wl tl_ ed rl hc bc nl ch c0 si (by omega) (by have := fu_big; omega) (by omega) (by rw [List.drop_zero, List.drop_zero]) (by omega) (by omega) (by omega) (by omega) (by rw [List.drop_zero]; exact hR) (by simp) (BY_nil _ _) hh hb
  rw [show iI ((0 : Nat) : Int) = 0 from rfl] at key
  obtain ⟨oc, fr', T, rln', rov', plc', rrc', up0', fl0', hl0', bl0', le0', cl0', ds', dp', pr0', na', ng', inf', q0', op', vs', us', ws', ts', es', ep', rs', bo0', wd0', zr0', ns', ho0', dd', vl', ul', wl', tl_', ed', rl', hc', bc', nl', ch', c0', si', e, h1, h2, h3, h4⟩ := key
  rw [e]
  have h5 : ∃ nx sm, fr' = fr' ∧ ((oc = 0 ∧ plc' = -1 ∧ fr' ≤ X.length ∧ RF X A [] fr' nx sm T co pl R) ∨ (oc = 3 ∧ co = 5 ∧ pl = -1 ∧ plc' = -1) ∨ (oc = 1 ∧ co = 3 ∧ plc' = iI pl) ∨ (oc = 2 ∧ co = 4 ∧ plc' = iI pl)) := by
    rcases h4 with ⟨a, b, hfr, nx', sm', hR'⟩ | h4
    · exact ⟨nx', sm', rfl, Or.inl ⟨a, b, hfr, hR'⟩⟩
    · exact ⟨0, 0, rfl, Or.inr h4⟩
  obtain ⟨nx, sm, _, h6⟩ := h5
  exact t163_er' hX1 hX hA hF f epr hco h6 h3 up0' fl0' hl0' bl0' le0' cl0' ds' dp' pr0' na' ng' inf' q0' op' vs' us' ws' ts' es' ep' rs' bo0' wd0' zr0' ns' ho0' dd' vl' ul' wl' tl_' ed' rl' hc' bc' nl' ch' c0' si' h1 h2
set_option maxRecDepth 10000 in
theorem ntformat_no1 {fi : Int} (f0 : -2147483648 ≤ fi) (f1 : fi < 2147483648) (hf : fi < 0 ∨ 8 ≤ fi) (sel : Nat) (epr : Int32) (A : List AgT) (dr : Int32) (xl : Int32) (xc fcv ffl fwd fpr fix pc_ ac_ kc : Nat → Int32) (vc : Nat → Int64) (tl tv : Nat → Int32) (tc : Nat → Nat → Int32) (rln rov plc : Int32) (rrc : Nat → Int32) (up0 fl0 hl0 bl0 le0 cl0 ds dp pr0 na ng inf q0 op vs us ws ts es ep rs bo0 wd0 zr0 ns ho0 : Int32) (dd vl ul wl tl_ ed rl hc bc nl ch : Nat → Int32) (c0 : Int64) (si : Nat) :
    t_Nt_format (iI fi) 32768 1000 4 10600 sel epr rln dr xl xc rov pc_ fcv ffl fwd fpr up0 fl0 hl0 bl0 fix le0 (iI A.length) kc vc cl0 ds dp dd pr0 na ng inf c0 q0 op vs vl us ul si ws wl ts tl_ es ep ed rs rl bo0 wd0 hc zr0 bc ns nl ch ac_ plc rrc ho0 tl tv tc = some (1, rln, rov, up0, fl0, hl0, bl0, le0, cl0, ds, dp, dd, pr0, na, ng, inf, c0, q0, op, vs, vl, us, ul, si, ws, wl, ts, tl_, es, ep, ed, rs, rl, bo0, wd0, hc, zr0, bc, ns, nl, ch, plc, rrc, ho0) := by
  unfold t_Nt_format
  by_cases q : fi < 0
  · rw [if_pos (show iI fi < 0 from by simp (disch := omega) only [iI_lit, iL_lit, iI_add, iI_sub, iI_mul, iI_neg, iL_add, iL_sub, iL_mul, iL_neg, iI_lt, iI_le, iI_eq, iL_lt, iL_le, iL_eqS, iI_c, iI_ok, iI_l, iL_i, iI_low, l_ushrI, l_shlI, l_shrI, i_shlI, i_shrI, i_ushrI, iI_div, iL_div, Int.toNat_natCast, Int.reduceToNat, iI_ofNat]; omega)]
  · rw [if_neg (show ¬ iI fi < 0 from by simp (disch := omega) only [iI_lit, iL_lit, iI_add, iI_sub, iI_mul, iI_neg, iL_add, iL_sub, iL_mul, iL_neg, iI_lt, iI_le, iI_eq, iL_lt, iL_le, iL_eqS, iI_c, iI_ok, iI_l, iL_i, iI_low, l_ushrI, l_shlI, l_shrI, i_shlI, i_shrI, i_ushrI, iI_div, iL_div, Int.toNat_natCast, Int.reduceToNat, iI_ofNat]; omega), if_neg (show ¬ iI fi < 8 from by simp (disch := omega) only [iI_lit, iL_lit, iI_add, iI_sub, iI_mul, iI_neg, iL_add, iL_sub, iL_mul, iL_neg, iI_lt, iI_le, iI_eq, iL_lt, iL_le, iL_eqS, iI_c, iI_ok, iI_l, iL_i, iI_low, l_ushrI, l_shlI, l_shrI, i_shlI, i_shrI, i_ushrI, iI_div, iL_div, Int.toNat_natCast, Int.reduceToNat, iI_ofNat]; omega)]
set_option maxRecDepth 10000 in
theorem ntformat_no3 {f : Nat} (hf : f < 8) (A : List AgT) (dr : Int32) (xl : Int32) (xc fcv ffl fwd fpr fix pc_ ac_ kc : Nat → Int32) (vc : Nat → Int64) (tl tv : Nat → Int32) (tc : Nat → Nat → Int32) (rln rov plc : Int32) (rrc : Nat → Int32) (up0 fl0 hl0 bl0 le0 cl0 ds dp pr0 na ng inf q0 op vs us ws ts es ep rs bo0 wd0 zr0 ns ho0 : Int32) (dd vl ul wl tl_ ed rl hc bc nl ch : Nat → Int32) (c0 : Int64) (si : Nat) :
    t_Nt_format (iI f) 32768 1000 4 10600 f 0 rln dr xl xc rov pc_ fcv ffl fwd fpr up0 fl0 hl0 bl0 fix le0 (iI A.length) kc vc cl0 ds dp dd pr0 na ng inf c0 q0 op vs vl us ul si ws wl ts tl_ es ep ed rs rl bo0 wd0 hc zr0 bc ns nl ch ac_ plc rrc ho0 tl tv tc = some (3, rln, rov, up0, fl0, hl0, bl0, le0, cl0, ds, dp, dd, pr0, na, ng, inf, c0, q0, op, vs, vl, us, ul, si, ws, wl, ts, tl_, es, ep, ed, rs, rl, bo0, wd0, hc, zr0, bc, ns, nl, ch, plc, rrc, ho0) := by
  have hok : gx_ok (iI (f : Int)) 8 = true := by simp (disch := omega) only [iI_lit, iL_lit, iI_add, iI_sub, iI_mul, iI_neg, iL_add, iL_sub, iL_mul, iL_neg, iI_lt, iI_le, iI_eq, iL_lt, iL_le, iL_eqS, iI_c, iI_ok, iI_l, iL_i, iI_low, l_ushrI, l_shlI, l_shrI, i_shlI, i_shrI, i_ushrI, iI_div, iL_div, Int.toNat_natCast, Int.reduceToNat, iI_ofNat]; omega
  unfold t_Nt_format
  rw [if_neg (show ¬ iI (f : Int) < 0 from by simp (disch := omega) only [iI_lit, iL_lit, iI_add, iI_sub, iI_mul, iI_neg, iL_add, iL_sub, iL_mul, iL_neg, iI_lt, iI_le, iI_eq, iL_lt, iL_le, iL_eqS, iI_c, iI_ok, iI_l, iL_i, iI_low, l_ushrI, l_shlI, l_shrI, i_shlI, i_shrI, i_ushrI, iI_div, iL_div, Int.toNat_natCast, Int.reduceToNat, iI_ofNat]; omega), if_pos (show iI (f : Int) < 8 from by simp (disch := omega) only [iI_lit, iL_lit, iI_add, iI_sub, iI_mul, iI_neg, iL_add, iL_sub, iL_mul, iL_neg, iI_lt, iI_le, iI_eq, iL_lt, iL_le, iL_eqS, iI_c, iI_ok, iI_l, iL_i, iI_low, l_ushrI, l_shlI, l_shrI, i_shlI, i_shrI, i_ushrI, iI_div, iL_div, Int.toNat_natCast, Int.reduceToNat, iI_ofNat]; omega), if_pos hok, iI_c (by omega) (by omega), Int.toNat_natCast, if_pos rfl, if_pos rfl]
