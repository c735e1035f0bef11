-- Z
set_option maxRecDepth 10000 in
def shM (s : Nat) (u : Int) (F : List Int32) : Prop :=
  if (2 ^ szK s - 1) * 2 ^ (szD s - 1) < u % 2 ^ szS s then F = litL 0 else ∃ G, F = (if u / 2 ^ szS s % 2 = 0 then [] else [iI 45]) ++ G ∧ shN s (u % 2 ^ szS s) G
set_option maxRecDepth 10000 in
theorem none_spec {s : Nat} (hs : s < 2) {z : Int} (h0 : 0 ≤ z) (h1 : z < 9223372036854775808) : f_Md_isNone (iL z) (iI (szD s)) = some (if (2 ^ szK s - 1) * 2 ^ (szD s - 1) < z then iI 1 else iI 0) := by
  obtain ⟨ib0, ib1⟩ := inf_b hs
  unfold f_Md_isNone
  rw [inf_spec hs, Option.bind_some]
  simp (disch := omega) only [iI_lit, iL_lit, iI_add, iI_sub, iI_mul, iI_neg, iL_add, iL_sub, iL_mul, iL_neg, iI_lt, iI_le, iI_eq, iL_lt, iL_le, iL_eqS, iI_c, iI_ok, iI_l, iL_i, iI_low, l_ushrI, l_shlI, l_shrI, i_shlI, i_shrI, i_ushrI, iI_div, iL_div, Int.toNat_natCast, Int.reduceToNat, iI_ofNat]
  by_cases q : z ≤ (2 ^ szK s - 1) * 2 ^ (szD s - 1)
  · rw [if_pos q, if_neg (by omega)]
  · rw [if_neg q, if_pos (by omega)]
set_option maxRecDepth 10000 in
theorem szS_le {s : Nat} (u : Int) : 0 ≤ u % 2 ^ szS s ∧ u % 2 ^ szS s < 9223372036854775808 := by
  have h := Int.emod_lt_of_pos u (p2_pos (szS s))
  have hn := Int.emod_nonneg u (b := 2 ^ szS s) (by have := p2_pos (szS s); omega)
  have hm : (2 : Int) ^ szS s ≤ 2 ^ 63 := p2_mono (by unfold szS; split <;> omega)
  have e : (2 : Int) ^ 63 = 9223372036854775808 := rfl
  omega
set_option maxRecDepth 10000 in
theorem printed28 {s : Nat} (hs : s < 2) {u : Int} (hu : uOK s u) {t0 t1 : Int64} (ht : t1 &&& t0 = iL (u % 2 ^ szS s)) {L : Nat} (hL2 : L ≤ 200000) {h : Int32} {c : Nat → Int32} {bl : Nat} {E : List Int32} (hM : MB h c bl E) (hl : E.length + 5001 < L) (hbl : bl ≤ 400000) (us rn0 rn1 rn2 rp0 rp1 rp2 dn dp un up_ : Int32) (d0 d1 d2 dc uc sp : Nat → Int32) (lc : Nat → Int64) :
    ∃ F, shM s u F ∧ OUT π21 (f_Md_printed_28 (iL u) t0 t1 (iI (szD s)) (iI (szL s)) us rn0 d0 lc rn1 d1 rn2 d2 rp0 dn dc dp un uc up_ rp2 rp1 h sp c bl) bl L (fun r => MBr r (E ++ F)) := by
  obtain ⟨z0, z1⟩ := szS_le (s := s) u
  obtain ⟨sg, hsg, hsb, _⟩ := size_spec hs hu
  unfold f_Md_printed_28
  rw [ht, none_spec hs z0 z1, Option.bind_some]
  by_cases q : (2 ^ szK s - 1) * 2 ^ (szD s - 1) < u % 2 ^ szS s
  · rw [if_pos q, if_neg (by decide)]
    refine ⟨litL 0, by unfold shM; rw [if_pos q], ?_⟩
    have hlit : litL 45 = litL 0 := by decide +kernel
    have hlen : gl_len.getD 45 0 = 3 := rfl
    refine OUT_bind (ρ := π3) (π := π21) (OUT_of (put2_spec (o := 45) (by omega) hL2 hM (by rw [hlen]; omega) hbl)) (fun u hu h1 h2 => ?_)
    rw [hlit] at hu
    exact ⟨_, rfl, Nat.le_refl _, Nat.le_max_left _ _, hu⟩
  · rw [if_neg q, if_pos (by decide), hsg, Option.bind_some]
    have hq : (iL u &&& sg = (0 : Int64)) = (u / 2 ^ szS s % 2 = 0) := hsb
    simp only [hq]
    by_cases r : u / 2 ^ szS s % 2 = 0
    · rw [if_pos r]
      obtain ⟨F, hF, hO⟩ := pr62 hs z0 (by omega) hL2 hM (by omega) hbl us rn0 rn1 rn2 rp0 rp1 rp2 dn dp un up_ d0 d1 d2 dc uc sp lc
      exact ⟨F, by unfold shM; rw [if_neg q, if_pos r]; exact ⟨F, rfl, hF⟩, hO⟩
    · rw [if_neg r]
      obtain ⟨v, e, g1, g2, g3⟩ := OUT_of (put_spec hM (L := L) (by omega) hL2 hbl 45)
      have g1' : bl ≤ v.2.2 := g1
      have g2' : v.2.2 ≤ max bl (2 * L) := g2
      have g3' : MB v.1 v.2.1 v.2.2 (E ++ [iI 45]) := g3
      obtain ⟨F, hF, hO⟩ := pr62 hs z0 (by omega) hL2 g3' (by simp; omega) (by omega) us rn0 rn1 rn2 rp0 rp1 rp2 dn dp un up_ d0 d1 d2 dc uc sp lc
      refine ⟨[iI 45] ++ F, by unfold shM; rw [if_neg q, if_neg r]; exact ⟨F, rfl, hF⟩, ?_⟩
      rw [e, Option.bind_some, if_pos g1]
      rw [List.append_assoc] at hO
      obtain ⟨r', e2, k1, k2, k3⟩ := OUT_mo hO
      exact ⟨r', e2, by omega, by omega, k3⟩
set_option maxRecDepth 10000 in
theorem printed_spec {s : Nat} (hs : s < 2) {u : Int} (hu : uOK s u) {L : Nat} (hL2 : L ≤ 200000) {h : Int32} {c : Nat → Int32} {bl : Nat} {E : List Int32} (hM : MB h c bl E) (hl : E.length + 5001 < L) (hbl : bl ≤ 400000) (us rn0 rn1 rn2 rp0 rp1 rp2 dn dp un up_ : Int32) (d0 d1 d2 dc uc sp : Nat → Int32) (lc : Nat → Int64) :
    ∃ F, shM s u F ∧ OUT π21 (f_Md_printed (iL u) (iI (szD s)) (iI (szL s)) us rn0 d0 lc rn1 d1 rn2 d2 rp0 dn dc dp un uc up_ rp2 rp1 h sp c bl) bl L (fun r => MBr r (E ++ F)) := by
  obtain ⟨sg, hsg, _, hsm⟩ := size_spec hs hu
  unfold f_Md_printed
  rw [hsg, Option.bind_some]
  have hcase : s = 0 ∨ s = 1 := by omega
  rcases hcase with rfl | rfl
  · rw [if_pos (by decide)]
    rw [if_pos rfl] at hsm
    obtain ⟨F, hF, hO⟩ := printed28 hs hu hsm hL2 hM hl hbl us rn0 rn1 rn2 rp0 rp1 rp2 dn dp un up_ d0 d1 d2 dc uc sp lc
    exact ⟨F, hF, OUT_mo hO⟩
  · rw [if_neg (by decide)]
    rw [if_neg (by decide)] at hsm
    obtain ⟨F, hF, hO⟩ := printed28 hs hu hsm hL2 hM hl hbl us rn0 rn1 rn2 rp0 rp1 rp2 dn dp un up_ d0 d1 d2 dc uc sp lc
    exact ⟨F, hF, OUT_mo hO⟩
-- Z2
set_option maxRecDepth 10000 in
theorem bi_z {s : Nat} (hs : s < 2) {u : Int} (h0 : 0 ≤ u) : (((2 : Int) ^ szK s - 1) * 2 ^ (szD s - 1) < u % 2 ^ szS s ↔ biN s u = 1) ∧ (u % 2 ^ szS s = (2 ^ szK s - 1) * 2 ^ (szD s - 1) ↔ biI s u = 1) ∧ mC s (u % 2 ^ szS s) = biC s u ∧ mQ s (u % 2 ^ szS s) = biQ s u ∧ (u % 2 ^ szS s = 0 ↔ biC s u = 0) ∧ (biN s u ≠ 1 → biS s u = u / 2 ^ szS s % 2) := by
  obtain ⟨e1, e2⟩ := bi_size hs h0
  have hb0 := szS_le (s := s) u
  unfold biN biI biS mC mQ biC biQ
  rw [e1, e2]
  have hcase : s = 0 ∨ s = 1 := by omega
  rcases hcase with rfl | rfl
  · have hS : (2 : Int) ^ szS 0 = 9223372036854775808 := rfl
    have hD : (2 : Int) ^ (szD 0 - 1) = 4503599627370496 := rfl
    have hK : (2 : Int) ^ szK 0 = 2048 := rfl
    rw [hS, hD] at e1 e2
    simp only [hS, hD, hK] at hb0 ⊢
    have hx : 0 ≤ biX 0 u ∧ biX 0 u < 2048 := by omega
    have hf : 0 ≤ biF 0 u ∧ biF 0 u < 4503599627370496 := by omega
    have hz : u % 9223372036854775808 = biX 0 u * 4503599627370496 + biF 0 u := by omega
    generalize biX 0 u = X at *
    generalize biF 0 u = Y at *
    generalize u / 9223372036854775808 % 2 = v at *
    rw [hz] at hb0 ⊢
    clear hz e1 e2 h0
    refine ⟨?_, ?_, ?_, ?_, ?_, ?_⟩ <;> (repeat' split) <;> omega
  · have hS : (2 : Int) ^ szS 1 = 2147483648 := rfl
    have hD : (2 : Int) ^ (szD 1 - 1) = 8388608 := rfl
    have hK : (2 : Int) ^ szK 1 = 256 := rfl
    rw [hS, hD] at e1 e2
    simp only [hS, hD, hK] at hb0 ⊢
    have hb2 : u % 2147483648 < 2147483648 := Int.emod_lt_of_pos _ (by omega)
    have hx : 0 ≤ biX 1 u ∧ biX 1 u < 256 := by omega
    have hf : 0 ≤ biF 1 u ∧ biF 1 u < 8388608 := by omega
    have hz : u % 2147483648 = biX 1 u * 8388608 + biF 1 u := by omega
    generalize biX 1 u = X at *
    generalize biF 1 u = Y at *
    generalize u / 2147483648 % 2 = v at *
    rw [hz] at hb0 ⊢
    clear hz e1 e2 h0
    refine ⟨?_, ?_, ?_, ?_, ?_, ?_⟩ <;> (repeat' split) <;> omega
set_option maxRecDepth 10000 in
theorem sh_uniq {s : Nat} (hs : s < 2) {u : Int} (h0 : 0 ≤ u) {F G : List Int32} (hF : shW s u F) (hG : shM s u G) : F = G := by
  obtain ⟨b1, b2, b3, b4, b5, b6⟩ := bi_z hs h0
  have hSu := b6
  unfold shW at hF
  unfold shM shN at hG
  by_cases q : biN s u = 1
  · rw [if_pos q] at hF
    rw [if_pos (b1.mpr q)] at hG
    rw [hF, hG]
  · rw [if_neg q] at hF
    rw [if_neg (fun h => q (b1.mp h))] at hG
    obtain ⟨A, rfl, hA⟩ := hF
    obtain ⟨B, rfl, hB⟩ := hG
    have hAB : A = B := by
      by_cases r : biI s u = 1
      · rw [if_pos r] at hA
        rw [if_pos (b2.mpr r)] at hB
        rw [hA, hB]
      · rw [if_neg r] at hA
        rw [if_neg (fun h => r (b2.mp h))] at hB
        by_cases t : biC s u = 0
        · rw [if_pos t] at hA
          rw [if_pos (b5.mpr t)] at hB
          rw [hA, hB]
        · rw [if_neg t] at hA
          rw [if_neg (fun h => t (b5.mp h))] at hB
          rw [b3, b4] at hB
          obtain ⟨D, P, n, w1, w2, rfl⟩ := hA
          obtain ⟨D', P', n', w1', w2', rfl⟩ := hB
          have hq : -1074 ≤ biQ s u := by
            have := (sz_p hs).2.2.2.2.1
            unfold biQ
            omega
          obtain ⟨rfl, rfl⟩ := short_uniq (short_N (by have := (biC_b hs u).1; omega) hq w1) w1'
          rw [strip_uniq w2 w2']
    rw [hAB, b6 q]
    congr 1
    have hb : u / 2 ^ szS s % 2 = 0 ∨ u / 2 ^ szS s % 2 = 1 := by omega
    rcases hb with r | r
    · rw [r]; rfl
    · rw [r]; rfl
set_option maxRecDepth 10000 in
theorem shW_mod {u : Int} {F : List Int32} : shW 1 (u % 4294967296) F = shW 1 u F := by
  have e1 : biX 1 (u % 4294967296) = biX 1 u := by
    unfold biX
    show u % 4294967296 / 8388608 % 256 = u / 8388608 % 256
    omega
  have e2 : biF 1 (u % 4294967296) = biF 1 u := by
    unfold biF
    show u % 4294967296 % 8388608 = u % 8388608
    omega
  have e3 : u % 4294967296 / 2 ^ szS 1 % 2 = u / 2 ^ szS 1 % 2 := by
    show u % 4294967296 / 2147483648 % 2 = u / 2147483648 % 2
    omega
  unfold shW biN biI biS biC biQ
  rw [e1, e2, e3]
-- ZA
set_option maxRecDepth 10000 in
theorem give_loop {h : Int32} {c : Nat → Int32} {bl : Nat} {E : List Int32} (hM : MB h c bl E) (hE : E.length ≤ 32768) (hb : bl ≤ 400000) (ln : Int32) : ∀ (d i m : Nat) (rc : Nat → Int32), i + d = E.length → d < m → (∀ j x, j < i → E[j]? = some x → rc j = x) →
    ∃ rc', f_Md_give_10 m (iI i) bl h ln c rc = some (ln, ln, rc') ∧ ∀ j x, E[j]? = some x → rc' j = x
  | 0, i, m + 1, rc, hi, hm, hr => by
    obtain ⟨hh, m1, m2, m3, m4⟩ := hM
    rw [f_Md_give_10, hh]
    simp (disch := omega) only [iI_lit, iL_lit, iI_add, iI_sub, iI_mul, iI_neg, iL_add, iL_sub, iL_mul, iL_neg, iI_lt, iI_le, iI_eq, iL_lt, iL_le, iL_eqS, iI_c, iI_ok, iI_l, iL_i, iI_low, l_ushrI, l_shlI, l_shrI, i_shlI, i_shrI, i_ushrI, iI_div, iL_div, Int.toNat_natCast, Int.reduceToNat, iI_ofNat]
    rw [if_pos (by omega)]
    refine ⟨rc, rfl, fun j x hj => hr j x ?_ hj⟩
    have := (List.getElem?_eq_some_iff.mp hj).1
    omega
  | d + 1, i, m + 1, rc, hi, hm, hr => by
    have hM' := hM
    obtain ⟨hh, m1, m2, m3, m4⟩ := hM'
    rw [f_Md_give_10, hh]
    simp (disch := omega) only [iI_lit, iL_lit, iI_add, iI_sub, iI_mul, iI_neg, iL_add, iL_sub, iL_mul, iL_neg, iI_lt, iI_le, iI_eq, iL_lt, iL_le, iL_eqS, iI_c, iI_ok, iI_l, iL_i, iI_low, l_ushrI, l_shlI, l_shrI, i_shlI, i_shrI, i_ushrI, iI_div, iL_div, Int.toNat_natCast, Int.reduceToNat, iI_ofNat]
    rw [if_neg (by omega), if_pos (by omega), if_pos (by omega)]
    have hil : i < E.length := by omega
    have hg := List.getElem?_eq_getElem hil
    have := give_loop hM hE hb ln d (i + 1) m (upd rc i (vp_nar .byte (c i))) (by omega) (by omega) (by
      intro j x hj hx
      by_cases q : j = i
      · subst q
        rw [upd_s, nar_bs, m3 j x hx]
        exact m4 x (List.mem_of_getElem? hx)
      · rw [upd_n q]
        exact hr j x (by omega) hx)
    rw [hh] at this
    exact_mod_cast this
set_option maxRecDepth 10000 in
theorem give_spec {h : Int32} {c : Nat → Int32} {bl : Nat} {E : List Int32} (hM : MB h c bl E) (hE : E.length ≤ 32768) (hb : bl ≤ 400000) (ln : Int32) (rc : Nat → Int32) :
    ∃ rc', f_Md_give bl h ln c rc = some (iI E.length, iI E.length, rc') ∧ ∀ j x, E[j]? = some x → rc' j = x := by
  unfold f_Md_give
  have := give_loop hM hE hb h E.length 0 gx_fu rc (by omega) (by have := fu_pos; omega) (by intro j x hj; omega)
  rw [hM.1] at this ⊢
  exact this
set_option maxRecDepth 10000 in
theorem numAt_len (v w u d : Int) : (numAt v w u d).length ≤ 1 := by unfold numAt; split <;> simp
set_option maxRecDepth 10000 in
theorem dec_len {δ : Nat → Nat} {t : Nat} (ht : 1 ≤ t) (h19 : t ≤ 19) (hz : ∀ i, t ≤ i → δ i = 0) {p : Int} (hp0 : -1000 ≤ p) (hp1 : p ≤ 1000) : (decE δ p t).length ≤ 40 := by
  by_cases h : p < -2 ∨ 7 < p
  · unfold decE
    rw [if_pos h]
    have a1 := numAt_len (p - 1).natAbs 1 1000 4
    have a2 := numAt_len (p - 1).natAbs 1 100 3
    have a3 := numAt_len (p - 1).natAbs 1 10 2
    have a4 := numAt_len (p - 1).natAbs 1 1 1
    have hl : (gl_byt.getD (if p ≤ 0 then 4 else 3) []).length ≤ 2 := by split <;> decide +kernel
    simp only [List.length_append, numE, digE, List.length_map, List.length_range', List.length_cons, List.length_nil]
    omega
  · rw [dec_eq ht hz hp0 hp1, if_neg h]
    unfold plainE
    have b1 : (if p < 1 then [iI 48] else ([] : List Int32)).length ≤ 1 := by split <;> simp
    have b2 : (if (t : Int) ≤ max p 0 then [iI 48] else ([] : List Int32)).length ≤ 1 := by split <;> simp
    simp only [List.length_append, dgL, List.length_map, List.length_range', List.length_cons, List.length_nil, List.length_replicate]
    omega
set_option maxRecDepth 10000 in
theorem shN_len {s : Nat} (hs : s < 2) {z : Int} (h0 : 0 ≤ z) {F : List Int32} (h : shN s z F) : F.length ≤ 40 := by
  unfold shN at h
  split at h
  · rw [h]; decide +kernel
  · split at h
    · rw [h]; decide +kernel
    · obtain ⟨Df, P, t, h1, h2, rfl⟩ := h
      obtain ⟨hD0, hP0, hP1, hnd⟩ := short_P (mC_b hs (by omega)).1 h1
      have ht1 : 1 ≤ t := by
        rcases Nat.eq_zero_or_pos t with r | r
        · exact absurd (h2.1 0 (by omega)) (digF_0 (by omega))
        · exact r
      have htn : t ≤ 19 := by have := strip_le h2; omega
      exact dec_len ht1 htn h2.1 hP0 hP1
set_option maxRecDepth 10000 in
theorem shM_len {s : Nat} (hs : s < 2) {u : Int} {F : List Int32} (h : shM s u F) : F.length ≤ 41 := by
  unfold shM at h
  split at h
  · rw [h]; decide +kernel
  · obtain ⟨G, rfl, hG⟩ := h
    have := shN_len hs (szS_le u).1 hG
    rw [List.length_append]
    split <;> simp <;> omega
set_option maxRecDepth 10000 in
theorem kind_spec {s : Nat} (hs : s < 2) (a b : Int32) : f_Md_kind (iI (1 - s)) a b = some (iI (szD s), iI (szL s)) := by
  have : s = 0 ∨ s = 1 := by omega
  rcases this with rfl | rfl <;> rfl
-- ZB
set_option maxRecDepth 10000 in
theorem iL_mod (a : Int) : iL (a % 18446744073709551616) = iL a := by
  apply Int64.toBitVec_inj.mp
  show BitVec.ofInt 64 _ = BitVec.ofInt 64 _
  apply BitVec.eq_of_toNat_eq
  rw [BitVec.toNat_ofInt, BitVec.toNat_ofInt]
  show (a % 18446744073709551616 % 18446744073709551616).toNat = (a % 18446744073709551616).toNat
  rw [Int.emod_emod]
set_option maxRecDepth 10000 in
theorem MB_nil {c : Nat → Int32} {bl : Nat} (h : 0 < bl) : MB (iI 0) c bl [] := ⟨rfl, by simp, h, by simp, by simp⟩
set_option maxRecDepth 10000 in
theorem mprint {u : Int} (hu : uOK 0 u) {c : Nat → Int32} {bl : Nat} (hb0 : 0 < bl) (hbl : bl ≤ 400000) (bi le us rn0 rn1 rn2 rp0 rp1 rp2 dn dp un up_ hd ln co : Int32) (d0 d1 d2 dc uc sp rc : Nat → Int32) (lc : Nat → Int64) :
    ∃ F r, shM 0 u F ∧ f_Md_print (iL u) bi le us rn0 d0 lc rn1 d1 rn2 d2 rp0 dn dc dp un uc up_ rp2 rp1 hd sp ln co rc c bl = some r ∧ r.1 = iI F.length ∧ r.2.1 = iI (szD 0) ∧ r.2.2.1 = iI (szL 0) ∧ r.2.2.2.2.2.2.2.2.2.2.2.2.2.2.2.2.2.2.2.2.2.2.1 = iI F.length ∧ r.2.2.2.2.2.2.2.2.2.2.2.2.2.2.2.2.2.2.2.2.2.2.2.1 = iI 0 ∧ (∀ j x, F[j]? = some x → r.2.2.2.2.2.2.2.2.2.2.2.2.2.2.2.2.2.2.2.2.2.2.2.2.1 j = x) ∧ bl ≤ r.2.2.2.2.2.2.2.2.2.2.2.2.2.2.2.2.2.2.2.2.2.2.2.2.2.2 ∧ r.2.2.2.2.2.2.2.2.2.2.2.2.2.2.2.2.2.2.2.2.2.2.2.2.2.2 ≤ max bl 12000 := by
  unfold f_Md_print
  obtain ⟨F, hF, v, e, g1, g2, g3⟩ := printed_spec (s := 0) (by omega) hu (L := 6000) (by omega) (MB_nil (c := c) hb0) (by simp) hbl us rn0 rn1 rn2 rp0 rp1 rp2 dn dp un up_ d0 d1 d2 dc uc sp lc
  rw [show f_Md_kind (1 : Int32) bi le = some (iI (szD 0), iI (szL 0)) from kind_spec (s := 0) (by omega) bi le, Option.bind_some]
  have hlen := shM_len (s := 0) (by omega) hF
  have g1' : bl ≤ v.2.2.2.2.2.2.2.2.2.2.2.2.2.2.2.2.2.2.2.2 := g1
  have g2' : v.2.2.2.2.2.2.2.2.2.2.2.2.2.2.2.2.2.2.2.2 ≤ max bl (2 * 6000) := g2
  have g3' : MB v.2.2.2.2.2.2.2.2.2.2.2.2.2.2.2.2.2.1 v.2.2.2.2.2.2.2.2.2.2.2.2.2.2.2.2.2.2.2.1 v.2.2.2.2.2.2.2.2.2.2.2.2.2.2.2.2.2.2.2.2 F := g3
  obtain ⟨rc', e2, k⟩ := give_spec g3' (by omega) (by omega) ln rc
  refine ⟨F, (iI F.length, iI (szD 0), iI (szL 0), v.1, v.2.1, v.2.2.1, v.2.2.2.1, v.2.2.2.2.1, v.2.2.2.2.2.1, v.2.2.2.2.2.2.1, v.2.2.2.2.2.2.2.1, v.2.2.2.2.2.2.2.2.1, v.2.2.2.2.2.2.2.2.2.1, v.2.2.2.2.2.2.2.2.2.2.1, v.2.2.2.2.2.2.2.2.2.2.2.1, v.2.2.2.2.2.2.2.2.2.2.2.2.1, v.2.2.2.2.2.2.2.2.2.2.2.2.2.1, v.2.2.2.2.2.2.2.2.2.2.2.2.2.2.1, v.2.2.2.2.2.2.2.2.2.2.2.2.2.2.2.1, v.2.2.2.2.2.2.2.2.2.2.2.2.2.2.2.2.1, v.2.2.2.2.2.2.2.2.2.2.2.2.2.2.2.2.2.1, v.2.2.2.2.2.2.2.2.2.2.2.2.2.2.2.2.2.2.1, iI F.length, 0, rc', v.2.2.2.2.2.2.2.2.2.2.2.2.2.2.2.2.2.2.2.1, v.2.2.2.2.2.2.2.2.2.2.2.2.2.2.2.2.2.2.2.2), hF, ?_, rfl, rfl, rfl, rfl, rfl, k, g1', g2'⟩
  refine mo_some ?_ g1'
  dsimp only
  rw [show (0 : Int32) = iI 0 from rfl, e, Option.bind_some, if_pos g1']
  refine mo_some ?_ (Nat.le_refl _)
  rw [e2, Option.bind_some]
set_option maxRecDepth 10000 in
theorem mprintF {x u : Int} (hx0 : -2147483648 ≤ x) (hx1 : x < 2147483648) (hux : u = x % 4294967296) {c : Nat → Int32} {bl : Nat} (hb0 : 0 < bl) (hbl : bl ≤ 400000) (bi le us rn0 rn1 rn2 rp0 rp1 rp2 dn dp un up_ hd ln co : Int32) (d0 d1 d2 dc uc sp rc : Nat → Int32) (lc : Nat → Int64) :
    ∃ F r, shM 1 u F ∧ f_Md_printFloat (iI x) bi le us rn0 d0 lc rn1 d1 rn2 d2 rp0 dn dc dp un uc up_ rp2 rp1 hd sp ln co rc c bl = some r ∧ r.1 = iI F.length ∧ r.2.1 = iI (szD 1) ∧ r.2.2.1 = iI (szL 1) ∧ r.2.2.2.2.2.2.2.2.2.2.2.2.2.2.2.2.2.2.2.2.2.2.1 = iI F.length ∧ r.2.2.2.2.2.2.2.2.2.2.2.2.2.2.2.2.2.2.2.2.2.2.2.1 = iI 0 ∧ (∀ j x, F[j]? = some x → r.2.2.2.2.2.2.2.2.2.2.2.2.2.2.2.2.2.2.2.2.2.2.2.2.1 j = x) ∧ bl ≤ r.2.2.2.2.2.2.2.2.2.2.2.2.2.2.2.2.2.2.2.2.2.2.2.2.2.2 ∧ r.2.2.2.2.2.2.2.2.2.2.2.2.2.2.2.2.2.2.2.2.2.2.2.2.2.2 ≤ max bl 12000 := by
  unfold f_Md_printFloat
  have hu : uOK 1 u := ⟨by omega, by rw [if_neg (by decide)]; omega⟩
  have hand : (iI x).toInt64 &&& (4294967295 : Int64) = iL u := by
    rw [iI_l hx0 hx1, ← iL_mod x, iL_lit, iL_lowL (by omega) (by omega), hux]
    congr 1
    omega
  rw [hand]
  obtain ⟨F, hF, v, e, g1, g2, g3⟩ := printed_spec (s := 1) (by omega) hu (L := 6000) (by omega) (MB_nil (c := c) hb0) (by simp) hbl us rn0 rn1 rn2 rp0 rp1 rp2 dn dp un up_ d0 d1 d2 dc uc sp lc
  rw [show f_Md_kind (0 : Int32) bi le = some (iI (szD 1), iI (szL 1)) from kind_spec (s := 1) (by omega) bi le, Option.bind_some]
  have hlen := shM_len (s := 1) (by omega) hF
  have g1' : bl ≤ v.2.2.2.2.2.2.2.2.2.2.2.2.2.2.2.2.2.2.2.2 := g1
  have g2' : v.2.2.2.2.2.2.2.2.2.2.2.2.2.2.2.2.2.2.2.2 ≤ max bl (2 * 6000) := g2
  have g3' : MB v.2.2.2.2.2.2.2.2.2.2.2.2.2.2.2.2.2.1 v.2.2.2.2.2.2.2.2.2.2.2.2.2.2.2.2.2.2.2.1 v.2.2.2.2.2.2.2.2.2.2.2.2.2.2.2.2.2.2.2.2 F := g3
  obtain ⟨rc', e2, k⟩ := give_spec g3' (by omega) (by omega) ln rc
  refine ⟨F, (iI F.length, iI (szD 1), iI (szL 1), v.1, v.2.1, v.2.2.1, v.2.2.2.1, v.2.2.2.2.1, v.2.2.2.2.2.1, v.2.2.2.2.2.2.1, v.2.2.2.2.2.2.2.1, v.2.2.2.2.2.2.2.2.1, v.2.2.2.2.2.2.2.2.2.1, v.2.2.2.2.2.2.2.2.2.2.1, v.2.2.2.2.2.2.2.2.2.2.2.1, v.2.2.2.2.2.2.2.2.2.2.2.2.1, v.2.2.2.2.2.2.2.2.2.2.2.2.2.1, v.2.2.2.2.2.2.2.2.2.2.2.2.2.2.1, v.2.2.2.2.2.2.2.2.2.2.2.2.2.2.2.1, v.2.2.2.2.2.2.2.2.2.2.2.2.2.2.2.2.1, v.2.2.2.2.2.2.2.2.2.2.2.2.2.2.2.2.2.1, v.2.2.2.2.2.2.2.2.2.2.2.2.2.2.2.2.2.2.1, iI F.length, 0, rc', v.2.2.2.2.2.2.2.2.2.2.2.2.2.2.2.2.2.2.2.1, v.2.2.2.2.2.2.2.2.2.2.2.2.2.2.2.2.2.2.2.2), hF, ?_, rfl, rfl, rfl, rfl, rfl, k, g1', g2'⟩
  refine mo_some ?_ g1'
  dsimp only
  rw [show (0 : Int32) = iI 0 from rfl, e, Option.bind_some, if_pos g1']
  refine mo_some ?_ (Nat.le_refl _)
  rw [e2, Option.bind_some]
set_option maxRecDepth 10000 in
theorem ntprint {u : Int} (h0 : 0 ≤ u) (h1 : u < 18446744073709551616) {n : Nat} (hn : n < 10000000) {len over : Int32} {cc : Nat → Int32} {E : List Int32} (hB : BY n len over cc E) (na ng inf : Int32) (bc : Int64) (bq : Int32) (sz : Nat) (op vs us ws ts ds dp rs : Int32) (vc uc wc tc dc rc : Nat → Int32) :
    ∃ F r, shW 0 u F ∧ f_Nt_print (iL u) n na len ng inf bc bq op vs vc us uc sz ws wc ts tc ds dp dc rs rc over cc = some r ∧ r.1 = r.2.2.1 ∧ r.2.1 = iI (biN 0 u) ∧ r.2.2.2.1 = iI (biS 0 u) ∧ r.2.2.2.2.1 = iI (biI 0 u) ∧ r.2.2.2.2.2.2.2.2.2.2.2.2.1 = 0 ∧ BY n r.2.2.1 r.2.2.2.2.2.2.2.2.2.2.2.2.2.2.2.2.2.2.2.2.2.2.1 r.2.2.2.2.2.2.2.2.2.2.2.2.2.2.2.2.2.2.2.2.2.2.2 F := by
  unfold f_Nt_print
  rw [take_spec (s := 0) (by omega) h0 h1, Option.bind_some]
  obtain ⟨l', o', e1, hB'⟩ := keep_spec (by omega) hB (m := 0) (by omega) (by omega)
  rw [show (0 : Int32) = iI 0 from rfl, e1, Option.bind_some]
  rw [show ((E.take n).take (0 : Int).toNat) = [] from rfl] at hB'
  obtain ⟨x, e2, F, hF, hB2⟩ := write_spec (s := 0) (by omega) h0 h1 hn hB' op vs us ws ts ds dp rs vc uc wc tc dc rc
  dsimp only
  rw [e2, Option.bind_some]
  rw [List.nil_append] at hB2
  exact ⟨F, _, hF, rfl, rfl, rfl, rfl, rfl, rfl, hB2⟩
set_option maxRecDepth 10000 in
theorem ntprintF {y u : Int} (hx0 : -2147483648 ≤ y) (hx1 : y < 2147483648) (hux : u = y % 4294967296) {n : Nat} (hn : n < 10000000) {len over : Int32} {cc : Nat → Int32} {E : List Int32} (hB : BY n len over cc E) (na ng inf : Int32) (bc : Int64) (bq : Int32) (sz : Nat) (op vs us ws ts ds dp rs : Int32) (vc uc wc tc dc rc : Nat → Int32) :
    ∃ F r, shW 1 u F ∧ f_Nt_printFloat (iI y) n na len ng inf bc bq op vs vc us uc sz ws wc ts tc ds dp dc rs rc over cc = some r ∧ r.1 = r.2.2.1 ∧ r.2.1 = iI (biN 1 (y % 18446744073709551616)) ∧ r.2.2.2.1 = iI (biS 1 (y % 18446744073709551616)) ∧ r.2.2.2.2.1 = iI (biI 1 (y % 18446744073709551616)) ∧ r.2.2.2.2.2.2.2.2.2.2.2.2.1 = 1 ∧ BY n r.2.2.1 r.2.2.2.2.2.2.2.2.2.2.2.2.2.2.2.2.2.2.2.2.2.2.1 r.2.2.2.2.2.2.2.2.2.2.2.2.2.2.2.2.2.2.2.2.2.2.2 F := by
  unfold f_Nt_printFloat
  have hy : (iI y).toInt64 = iL (y % 18446744073709551616) := by
    rw [iI_l hx0 hx1]; exact (iL_mod y).symm
  rw [hy]
  have h0 : 0 ≤ y % 18446744073709551616 := by omega
  have h1 : y % 18446744073709551616 < 18446744073709551616 := by omega
  rw [take_spec (s := 1) (by omega) h0 h1, Option.bind_some]
  obtain ⟨l', o', e1, hB'⟩ := keep_spec (by omega) hB (m := 0) (by omega) (by omega)
  rw [show (0 : Int32) = iI 0 from rfl, e1, Option.bind_some]
  rw [show ((E.take n).take (0 : Int).toNat) = [] from rfl] at hB'
  obtain ⟨x, e2, F, hF, hB2⟩ := write_spec (s := 1) (by omega) h0 h1 hn hB' op vs us ws ts ds dp rs vc uc wc tc dc rc
  dsimp only
  rw [e2, Option.bind_some]
  rw [List.nil_append] at hB2
  exact ⟨F, _, by rw [hux, ← show y % 18446744073709551616 % 4294967296 = y % 4294967296 by omega, shW_mod]; exact hF, rfl, rfl, rfl, rfl, rfl, rfl, hB2⟩
-- ZC
set_option maxRecDepth 10000 in
def TP (t : Int32) (c : Nat → Int32) (E : List Int32) : Prop := t = iI E.length ∧ (∀ i x, E[i]? = some x → c i = x) ∧ ∀ x ∈ E, sb x = x
set_option maxRecDepth 10000 in
theorem TP_put {t : Int32} {c : Nat → Int32} {E : List Int32} (h : TP t c E) {y : Int32} (hy : sb y = y) : TP (iI ((E.length : Int) + 1)) (upd c E.length y) (E ++ [y]) := by
  obtain ⟨h1, h2, h3⟩ := h
  refine ⟨by simp, fun i x hx => ?_, fun x hx => ?_⟩
  · rcases Nat.lt_trichotomy i E.length with q | q | q
    · rw [List.getElem?_append_left q] at hx
      rw [upd_n (by omega)]
      exact h2 i x hx
    · subst q
      rw [List.getElem?_append_right (Nat.le_refl _), Nat.sub_self] at hx
      rw [upd_s]
      simpa using hx
    · rw [List.getElem?_eq_none (by simp; omega)] at hx
      cases hx
  · rcases List.mem_append.mp hx with q | q
    · exact h3 x q
    · rw [List.mem_singleton.mp q, hy]
set_option maxRecDepth 10000 in
theorem w4_step {t : Int32} {c : Nat → Int32} {E : List Int32} (h : TP t c E) (hl : E.length < 65536) {a v : Int} (ha0 : -2147483648 ≤ a) (ha1 : a < 2147483648) (hv0 : 0 ≤ v) (hv1 : v < 32) (m : Nat) :
    f_Md_word4_3 (m + 1) (iI a) (iI v) t c = f_Md_word4_3 m (iI a) (iI (v - 8)) (iI ((E.length : Int) + 1)) (upd c E.length (sb (iI (a / 2 ^ v.toNat)))) := by
  rw [f_Md_word4_3, h.1]
  simp (disch := omega) only [iI_lit, iL_lit, iI_add, iI_sub, iI_mul, iI_neg, iL_add, iL_sub, iL_mul, iL_neg, iI_lt, iI_le, iI_eq, iL_lt, iL_le, iL_eqS, iI_c, iI_ok, iI_l, iL_i, iI_low, l_ushrI, l_shlI, l_shrI, i_shlI, i_shrI, i_ushrI, iI_div, iL_div, Int.toNat_natCast, Int.reduceToNat, iI_ofNat]
  rw [if_neg (by omega), if_pos (by omega)]
  rw [nar_b]
  rfl
set_option maxRecDepth 10000 in
theorem bm_sub (y m : Int) : (y - 256 * m).bmod 256 = y.bmod 256 := by
  have e : (y - 256 * m) % ((256 : Nat) : Int) = y % ((256 : Nat) : Int) := by omega
  unfold Int.bmod
  rw [e]
set_option maxRecDepth 10000 in
theorem sb_div {x : Int32} {a : Int} (hx : x = iI a) (ha0 : -2147483648 ≤ a) (ha1 : a < 2147483648) :
    sb (iI (a / 2 ^ 24)) = sb (iI (u3 x / 2 ^ 24)) ∧ sb (iI (a / 2 ^ 16)) = sb (iI (u3 x / 2 ^ 16)) ∧ sb (iI (a / 2 ^ 8)) = sb (iI (u3 x / 2 ^ 8)) := by
  have hu : u3 x = a ∨ a = u3 x - 4294967296 := by
    rw [hx, u3_m]
    omega
  rcases hu with h | h
  · rw [h]; exact ⟨rfl, rfl, rfl⟩
  · have e1 : (2 : Int) ^ 24 = 16777216 := rfl
    have e2 : (2 : Int) ^ 16 = 65536 := rfl
    have e3 : (2 : Int) ^ 8 = 256 := rfl
    refine ⟨?_, ?_, ?_⟩
    · rw [sb_i, sb_i, e1, show a / 16777216 = u3 x / 16777216 - 256 * 1 by omega, bm_sub]
    · rw [sb_i, sb_i, e2, show a / 65536 = u3 x / 65536 - 256 * 256 by omega, bm_sub]
    · rw [sb_i, sb_i, e3, show a / 256 = u3 x / 256 - 256 * 65536 by omega, bm_sub]
set_option maxRecDepth 10000 in
theorem word4_spec {t : Int32} {c : Nat → Int32} {E : List Int32} (h : TP t c E) (hl : E.length + 4 ≤ 65536) (x : Int32) : ∃ t' c', f_Md_word4 x t c = some (t', c') ∧ TP t' c' (E ++ intE x) := by
  obtain ⟨a, ha0, ha1, hx⟩ : ∃ a : Int, -2147483648 ≤ a ∧ a < 2147483648 ∧ x = iI a := ⟨x.toInt, Int32.le_toInt x, Int32.toInt_lt x, (Int32.ofInt_toInt x).symm⟩
  obtain ⟨k, hk⟩ : ∃ k, gx_fu = k + 5 := ⟨gx_fu - 5, by have := fu_pos; omega⟩
  unfold f_Md_word4 intE
  rw [hk, hx]
  obtain ⟨s1, s2, s3⟩ := sb_div hx ha0 ha1
  rw [hx] at s1 s2 s3
  have h1 := TP_put h (sb_sb (iI (a / 2 ^ 24)))
  have h2 := TP_put h1 (sb_sb (iI (a / 2 ^ 16)))
  have h3 := TP_put h2 (sb_sb (iI (a / 2 ^ 8)))
  have h4 := TP_put h3 (sb_sb (iI (a / 2 ^ 0)))
  have e1 := w4_step h (by omega) ha0 ha1 (v := 24) (by omega) (by omega) (k + 4)
  have e2 := w4_step h1 (by simp; omega) ha0 ha1 (v := 16) (by omega) (by omega) (k + 3)
  have e3 := w4_step h2 (by simp; omega) ha0 ha1 (v := 8) (by omega) (by omega) (k + 2)
  have e4 := w4_step h3 (by simp; omega) ha0 ha1 (v := 0) (by omega) (by omega) (k + 1)
  rw [show Int.toNat 24 = 24 from rfl] at e1
  rw [show Int.toNat 16 = 16 from rfl] at e2
  rw [show Int.toNat 8 = 8 from rfl] at e3
  rw [show Int.toNat 0 = 0 from rfl] at e4
  have e5 : ∀ t c, f_Md_word4_3 (k + 1) (iI a) (iI (0 - 8)) t c = some (t, c) := by
    intro t c
    rw [f_Md_word4_3]
    rfl
  rw [show (24 : Int32) = iI 24 from rfl, e1]
  rw [show (24 - 8 : Int) = 16 from rfl, e2]
  rw [show (16 - 8 : Int) = 8 from rfl, e3]
  rw [show (8 - 8 : Int) = 0 from rfl, e4, e5]
  refine ⟨_, _, rfl, ?_⟩
  rw [show a / 2 ^ 0 = a by simp] at h4
  rw [s1, s2, s3] at h4 ⊢
  simpa using h4
set_option maxRecDepth 10000 in
theorem intE_len (x : Int32) : (intE x).length = 4 := rfl
set_option maxRecDepth 10000 in
def fiveE (x1 x2 x3 x4 x5 : Int32) : List Int32 := intE x1 ++ (intE x2 ++ (intE x3 ++ (intE x4 ++ intE x5)))
set_option maxRecDepth 10000 in
theorem feed_ok {len over t : Int32} {cc c : Nat → Int32} {E : List Int32} (hB : BY 65536 len over cc E) (hT : TP t c E) (hl : E.length ≤ 65516) (x1 x2 x3 x4 x5 co : Int32) :
    ∃ l' o' c' t' c2, f_Nt_feed x1 x2 x3 x4 x5 65536 len over cc = some (l', l', o', c') ∧ f_Md_feed x1 x2 x3 x4 x5 t co c = some (l', t', iI 0, c2) ∧ BY 65536 l' o' c' (E ++ fiveE x1 x2 x3 x4 x5) ∧ TP t' c2 (E ++ fiveE x1 x2 x3 x4 x5) := by
  have hlen : len = iI E.length := by rw [hB.1]; congr 2; omega
  unfold f_Nt_feed f_Md_feed f_Md_feed_18 fiveE
  obtain ⟨l1, o1, c1, a1, b1⟩ := aint_spec (by omega) x1 hB
  obtain ⟨l2, o2, c2, a2, b2⟩ := aint_spec (by omega) x2 b1
  obtain ⟨l3, o3, c3, a3, b3⟩ := aint_spec (by omega) x3 b2
  obtain ⟨l4, o4, c4, a4, b4⟩ := aint_spec (by omega) x4 b3
  obtain ⟨l5, o5, c5, a5, b5⟩ := aint_spec (by omega) x5 b4
  obtain ⟨t1, d1, m1, n1⟩ := word4_spec hT (by omega) x1
  obtain ⟨t2, d2, m2, n2⟩ := word4_spec n1 (by simp [intE_len]; omega) x2
  obtain ⟨t3, d3, m3, n3⟩ := word4_spec n2 (by simp [intE_len]; omega) x3
  obtain ⟨t4, d4, m4, n4⟩ := word4_spec n3 (by simp [intE_len]; omega) x4
  obtain ⟨t5, d5, m5, n5⟩ := word4_spec n4 (by simp [intE_len]; omega) x5
  have g : f_Md_good (1 : Int32) (1 : Int32) co = some (1, 0) := rfl
  have hc : ¬ ((65536 : Int32) < t + (20 : Int32)) := by
    rw [hT.1]
    simp (disch := omega) only [iI_lit, iL_lit, iI_add, iI_sub, iI_mul, iI_neg, iL_add, iL_sub, iL_mul, iL_neg, iI_lt, iI_le, iI_eq, iL_lt, iL_le, iL_eqS, iI_c, iI_ok, iI_l, iL_i, iI_low, l_ushrI, l_shlI, l_shrI, i_shlI, i_shrI, i_ushrI, iI_div, iL_div, Int.toNat_natCast, Int.reduceToNat, iI_ofNat]
    omega
  have hd : len ≤ (65516 : Int32) := by
    rw [hlen]
    simp (disch := omega) only [iI_lit, iL_lit, iI_add, iI_sub, iI_mul, iI_neg, iL_add, iL_sub, iL_mul, iL_neg, iI_lt, iI_le, iI_eq, iL_lt, iL_le, iL_eqS, iI_c, iI_ok, iI_l, iL_i, iI_low, l_ushrI, l_shlI, l_shrI, i_shlI, i_shrI, i_ushrI, iI_div, iL_div, Int.toNat_natCast, Int.reduceToNat, iI_ofNat]
    omega
  rw [if_pos hd, if_neg hc, g, Option.bind_some, if_neg (by decide)]
  rw [a1, Option.bind_some, m1, Option.bind_some]
  dsimp only
  rw [a2, Option.bind_some, m2, Option.bind_some]
  dsimp only
  rw [a3, Option.bind_some, m3, Option.bind_some]
  dsimp only
  rw [a4, Option.bind_some, m4, Option.bind_some]
  dsimp only
  rw [a5, Option.bind_some, m5, Option.bind_some]
  dsimp only
  have hlt : l5 = t5 := by
    rw [b5.1, n5.1]
    congr 2
    simp only [List.length_append, intE_len]
    omega
  subst hlt
  simp only [List.append_assoc] at b5 n5
  exact ⟨_, _, _, _, _, rfl, rfl, b5, n5⟩
set_option maxRecDepth 10000 in
theorem feed_no {len over t : Int32} {cc c : Nat → Int32} {E : List Int32} (hB : BY 65536 len over cc E) (hT : TP t c E) (hl : 65516 < E.length) (hl2 : E.length ≤ 65536) (x1 x2 x3 x4 x5 co : Int32) :
    t_Nt_feed x1 x2 x3 x4 x5 65536 len over cc = some (0, len, over, cc) ∧ f_Md_feed x1 x2 x3 x4 x5 t co c = some (iI 0, t, iI 1, c) := by
  have hlen : len = iI E.length := by rw [hB.1]; congr 2; omega
  unfold t_Nt_feed f_Md_feed f_Md_feed_18
  have g : f_Md_good (0 : Int32) (1 : Int32) co = some (0, 1) := rfl
  have hc : ((65536 : Int32) < t + (20 : Int32)) := by
    rw [hT.1]
    simp (disch := omega) only [iI_lit, iL_lit, iI_add, iI_sub, iI_mul, iI_neg, iL_add, iL_sub, iL_mul, iL_neg, iI_lt, iI_le, iI_eq, iL_lt, iL_le, iL_eqS, iI_c, iI_ok, iI_l, iL_i, iI_low, l_ushrI, l_shlI, l_shrI, i_shlI, i_shrI, i_ushrI, iI_div, iL_div, Int.toNat_natCast, Int.reduceToNat, iI_ofNat]
    omega
  have hd : ¬ len ≤ (65516 : Int32) := by
    rw [hlen]
    simp (disch := omega) only [iI_lit, iL_lit, iI_add, iI_sub, iI_mul, iI_neg, iL_add, iL_sub, iL_mul, iL_neg, iI_lt, iI_le, iI_eq, iL_lt, iL_le, iL_eqS, iI_c, iI_ok, iI_l, iL_i, iI_low, l_ushrI, l_shlI, l_shrI, i_shlI, i_shrI, i_ushrI, iI_div, iL_div, Int.toNat_natCast, Int.reduceToNat, iI_ofNat]
    omega
  rw [if_neg hd, if_pos hc, g, Option.bind_some, if_pos rfl]
  exact ⟨rfl, rfl⟩
-- ZD
set_option maxRecDepth 10000 in
theorem TP_take {t : Int32} {c : Nat → Int32} {E : List Int32} (h : TP t c E) {a : Nat} (ha : a ≤ E.length) : TP (iI a) c (E.take a) := by
  refine ⟨?_, fun i x hx => ?_, fun x hx => h.2.2 x (List.mem_of_mem_take hx)⟩
  · congr 1
    rw [List.length_take]
    omega
  · rw [List.getElem?_take] at hx
    split at hx
    · exact h.2.1 i x hx
    · cases hx
set_option maxRecDepth 10000 in
theorem end_ok {len over t : Int32} {cc c : Nat → Int32} {E : List Int32} (hB : BY 65536 len over cc E) (hT : TP t c E) (hE : E.length ≤ 65536) {a : Int} (ha0 : 0 ≤ a) (ha1 : a ≤ E.length) (co : Int32) :
    ∃ l' o', f_Nt_end (iI a) len over = some (iI a, l', o') ∧ f_Md_end (iI a) t co = some (iI a, iI a, iI 0) ∧ BY 65536 l' o' cc (E.take a.toNat) ∧ TP (iI a) c (E.take a.toNat) := by
  have hlen : len = iI E.length := by rw [hB.1]; congr 2; omega
  obtain ⟨l', o', e, hB'⟩ := keep_spec (by omega) hB (m := a) (by omega) (by omega)
  rw [List.take_of_length_le hE] at hB'
  have hT' := TP_take hT (a := a.toNat) (by omega)
  rw [show ((a.toNat : Nat) : Int) = a by omega] at hT'
  refine ⟨l', o', ?_, ?_, hB', hT'⟩
  · unfold f_Nt_end
    rw [e, hlen]
    simp (disch := omega) only [iI_lit, iL_lit, iI_add, iI_sub, iI_mul, iI_neg, iL_add, iL_sub, iL_mul, iL_neg, iI_lt, iI_le, iI_eq, iL_lt, iL_le, iL_eqS, iI_c, iI_ok, iI_l, iL_i, iI_low, l_ushrI, l_shlI, l_shrI, i_shlI, i_shrI, i_ushrI, iI_div, iL_div, Int.toNat_natCast, Int.reduceToNat, iI_ofNat]
    rw [if_neg (by omega), if_pos (by omega), Option.bind_some]
  · unfold f_Md_end f_Md_end_18
    rw [hT.1]
    have g : f_Md_good (iI 1) (iI 1) co = some (1, 0) := rfl
    simp (disch := omega) only [iI_lit, iL_lit, iI_add, iI_sub, iI_mul, iI_neg, iL_add, iL_sub, iL_mul, iL_neg, iI_lt, iI_le, iI_eq, iL_lt, iL_le, iL_eqS, iI_c, iI_ok, iI_l, iL_i, iI_low, l_ushrI, l_shlI, l_shrI, i_shlI, i_shrI, i_ushrI, iI_div, iL_div, Int.toNat_natCast, Int.reduceToNat, iI_ofNat]
    rw [if_neg (by omega), if_neg (by omega), g, Option.bind_some]
    rfl
set_option maxRecDepth 10000 in
theorem end_no {len over t : Int32} {cc c : Nat → Int32} {E : List Int32} (hB : BY 65536 len over cc E) (hT : TP t c E) (hE : E.length ≤ 65536) {a : Int} (h0 : -2147483648 ≤ a) (h1 : a < 2147483648) (ha : a < 0 ∨ (E.length : Int) < a) (co : Int32) :
    t_Nt_end (iI a) len over = some (1, len, over) ∧ f_Md_end (iI a) t co = some (iI 0, t, iI 1) := by
  have hlen : len = iI E.length := by rw [hB.1]; congr 2; omega
  have g : f_Md_good (iI 0) (iI 1) co = some (0, 1) := rfl
  have e18 : f_Md_end_17 (iI a) t co = some (iI 0, t, iI 1) := rfl
  unfold t_Nt_end f_Md_end
  rw [e18]
  rw [hlen, hT.1]
  simp (disch := omega) only [iI_lit, iL_lit, iI_add, iI_sub, iI_mul, iI_neg, iL_add, iL_sub, iL_mul, iL_neg, iI_lt, iI_le, iI_eq, iL_lt, iL_le, iL_eqS, iI_c, iI_ok, iI_l, iL_i, iI_low, l_ushrI, l_shlI, l_shrI, i_shlI, i_shrI, i_ushrI, iI_div, iL_div, Int.toNat_natCast, Int.reduceToNat, iI_ofNat]
  by_cases q : a < 0
  · rw [if_pos q, if_pos q]; exact ⟨rfl, rfl⟩
  · rw [if_neg q, if_neg q, if_neg (by omega), if_pos (by omega)]; exact ⟨rfl, rfl⟩
set_option maxRecDepth 10000 in
theorem byte_l {x : Int32} : x.toInt64 &&& iL 255 = iL (ub x) := by
  obtain ⟨a, ha0, ha1, hx⟩ : ∃ a : Int, -2147483648 ≤ a ∧ a < 2147483648 ∧ x = iI a := ⟨x.toInt, Int32.le_toInt x, Int32.toInt_lt x, (Int32.ofInt_toInt x).symm⟩
  rw [hx, iI_l ha0 ha1, ← iL_mod, show iL 255 = iL (2 ^ 8 - 1) from rfl, iL_mask (by omega) (by omega) (by omega)]
  unfold ub
  rw [u3_m]
  congr 1
  have : (2 : Int) ^ 8 = 256 := rfl
  rw [this]
  omega
set_option maxRecDepth 10000 in
def ubAt (E : List Int32) (i : Nat) : Int := match E[i]? with
  | some x => ub x
  | none => 0
set_option maxRecDepth 10000 in
theorem word_loop {n : Nat} (hn : n = 32768) {len over : Int32} {cc rc : Nat → Int32} {E : List Int32} (hB : BY n len over cc E) (hE : E.length ≤ n) (hR : ∀ j x, E[j]? = some x → rc j = x) {a : Nat} (ha : a < E.length) (co : Int32) : ∀ (d i m m' : Nat) (v : Int64), i + d = 8 → d < m → d < m' →
    ∃ w, f_Nt_word_30 m (iI a) v (iI i) n len cc = some w ∧ f_Md_word_32 m' (iI a) v (iI ((a : Int) + i)) (iI E.length) rc co = some (w, co)
  | 0, i, m + 1, m' + 1, v, hi, hm, hm' => by
    refine ⟨v, ?_, ?_⟩
    · rw [f_Nt_word_30]
      simp (disch := omega) only [iI_lit, iL_lit, iI_add, iI_sub, iI_mul, iI_neg, iL_add, iL_sub, iL_mul, iL_neg, iI_lt, iI_le, iI_eq, iL_lt, iL_le, iL_eqS, iI_c, iI_ok, iI_l, iL_i, iI_low, l_ushrI, l_shlI, l_shrI, i_shlI, i_shrI, i_ushrI, iI_div, iL_div, Int.toNat_natCast, Int.reduceToNat, iI_ofNat]
      rw [if_pos (by omega)]
    · rw [f_Md_word_32]
      simp (disch := omega) only [iI_lit, iL_lit, iI_add, iI_sub, iI_mul, iI_neg, iL_add, iL_sub, iL_mul, iL_neg, iI_lt, iI_le, iI_eq, iL_lt, iL_le, iL_eqS, iI_c, iI_ok, iI_l, iL_i, iI_low, l_ushrI, l_shlI, l_shrI, i_shlI, i_shrI, i_ushrI, iI_div, iL_div, Int.toNat_natCast, Int.reduceToNat, iI_ofNat]
      rw [if_pos (by omega)]
  | d + 1, i, m + 1, m' + 1, v, hi, hm, hm' => by
    obtain ⟨w, e1, e2⟩ := word_loop hn hB hE hR ha co d (i + 1) m m' ((v <<< (iL 8 &&& 63)) ||| iL (ubAt E (a + i))) (by omega) (by omega) (by omega)
    refine ⟨w, ?_, ?_⟩
    · rw [f_Nt_word_30, if_neg (show ¬ (8 : Int32) ≤ iI i from by simp (disch := omega) only [iI_lit, iL_lit, iI_add, iI_sub, iI_mul, iI_neg, iL_add, iL_sub, iL_mul, iL_neg, iI_lt, iI_le, iI_eq, iL_lt, iL_le, iL_eqS, iI_c, iI_ok, iI_l, iL_i, iI_low, l_ushrI, l_shlI, l_shrI, i_shlI, i_shrI, i_ushrI, iI_div, iL_div, Int.toNat_natCast, Int.reduceToNat, iI_ofNat]; omega)]
      have hat : f_By_at (iI a + iI i) n len cc = some (iI ((E[a + i]?.map ub).getD (-1))) := by
        rw [iI_add, at_spec (by omega) hB (by omega) (by omega), if_pos (by omega), List.take_of_length_le hE]
        rw [show ((a : Int) + (i : Int)).toNat = a + i by omega]
      have hb : -1 ≤ (E[a + i]?.map ub).getD (-1) ∧ (E[a + i]?.map ub).getD (-1) < 256 ∧ max ((E[a + i]?.map ub).getD (-1)) 0 = ubAt E (a + i) := by
        unfold ubAt
        cases E[a + i]? with
        | none => exact ⟨by simp, by simp, rfl⟩
        | some x =>
          have := ub_0 x
          have := ub_l x
          show -1 ≤ ub x ∧ ub x < 256 ∧ max (ub x) 0 = ub x
          omega
      rw [hat, Option.bind_some, show (0 : Int32) = iI 0 from rfl, max_spec (by omega) (by omega) (by omega) (by omega), Option.bind_some, hb.2.2]
      rw [iI_l (by omega) (by omega), show iI i + 1 = iI ((i + 1 : Nat) : Int) from by rw [show (1 : Int32) = iI 1 from rfl, iI_add]; rfl]
      exact e1
    · rw [f_Md_word_32, if_neg (show ¬ iI a + (8 : Int32) ≤ iI ((a : Int) + i) from by simp (disch := omega) only [iI_lit, iL_lit, iI_add, iI_sub, iI_mul, iI_neg, iL_add, iL_sub, iL_mul, iL_neg, iI_lt, iI_le, iI_eq, iL_lt, iL_le, iL_eqS, iI_c, iI_ok, iI_l, iL_i, iI_low, l_ushrI, l_shlI, l_shrI, i_shlI, i_shrI, i_ushrI, iI_div, iL_div, Int.toNat_natCast, Int.reduceToNat, iI_ofNat]; omega)]
      have hstep : iI ((a : Int) + i) + 1 = iI ((a : Int) + ((i + 1 : Nat) : Int)) := by
        rw [show (1 : Int32) = iI 1 from rfl, iI_add]
        congr 1
      unfold f_Md_word_70
      rw [hstep]
      by_cases q : E.length ≤ a + i
      · rw [if_pos (show iI E.length ≤ iI ((a : Int) + i) from by simp (disch := omega) only [iI_lit, iL_lit, iI_add, iI_sub, iI_mul, iI_neg, iL_add, iL_sub, iL_mul, iL_neg, iI_lt, iI_le, iI_eq, iL_lt, iL_le, iL_eqS, iI_c, iI_ok, iI_l, iL_i, iI_low, l_ushrI, l_shlI, l_shrI, i_shlI, i_shrI, i_ushrI, iI_div, iL_div, Int.toNat_natCast, Int.reduceToNat, iI_ofNat]; omega)]
        have hz : ubAt E (a + i) = 0 := by
          unfold ubAt
          rw [List.getElem?_eq_none q]
        rw [hz] at e2
        exact e2
      · rw [if_neg (show ¬ iI E.length ≤ iI ((a : Int) + i) from by simp (disch := omega) only [iI_lit, iL_lit, iI_add, iI_sub, iI_mul, iI_neg, iL_add, iL_sub, iL_mul, iL_neg, iI_lt, iI_le, iI_eq, iL_lt, iL_le, iL_eqS, iI_c, iI_ok, iI_l, iL_i, iI_low, l_ushrI, l_shlI, l_shrI, i_shlI, i_shrI, i_ushrI, iI_div, iL_div, Int.toNat_natCast, Int.reduceToNat, iI_ofNat]; omega)]
        have hok : gx_ok (iI ((a : Int) + i)) 32768 = true := by simp (disch := omega) only [iI_lit, iL_lit, iI_add, iI_sub, iI_mul, iI_neg, iL_add, iL_sub, iL_mul, iL_neg, iI_lt, iI_le, iI_eq, iL_lt, iL_le, iL_eqS, iI_c, iI_ok, iI_l, iL_i, iI_low, l_ushrI, l_shlI, l_shrI, i_shlI, i_shrI, i_ushrI, iI_div, iL_div, Int.toNat_natCast, Int.reduceToNat, iI_ofNat]; omega
        rw [if_pos hok]
        have hg := List.getElem?_eq_getElem (show a + i < E.length by omega)
        have hz : ubAt E (a + i) = ub (E[a + i]) := by
          unfold ubAt
          rw [hg]
        rw [hz] at e2
        have hc : rc ((iI ((a : Int) + i)).toNatClampNeg) = E[a + i] := by
          rw [iI_c (by omega) (by omega), show ((a : Int) + (i : Int)).toNat = a + i by omega]
          exact hR _ _ hg
        rw [hc, show (255 : Int64) = iL 255 from rfl, byte_l]
        exact e2
set_option maxRecDepth 10000 in
theorem word_ok {n : Nat} (hn : n = 32768) {len over : Int32} {cc rc : Nat → Int32} {E : List Int32} (hB : BY n len over cc E) (hE : E.length ≤ n) (hR : ∀ j x, E[j]? = some x → rc j = x) {a : Int} (ha0 : 0 ≤ a) (ha : a < E.length) (co : Int32) :
    ∃ w, f_Nt_word (iI a) n len cc = some w ∧ f_Md_word (iI a) (iI E.length) rc co = some (w, iI 0) := by
  obtain ⟨b, rfl⟩ : ∃ b : Nat, a = b := ⟨a.toNat, by omega⟩
  obtain ⟨w, e1, e2⟩ := word_loop hn hB hE hR (a := b) (by omega) (iI 0) 8 0 gx_fu gx_fu (iL 0) (by omega) (by have := fu_pos; omega) (by have := fu_pos; omega)
  have hlen : len = iI E.length := by rw [hB.1]; congr 2; omega
  refine ⟨w, ?_, ?_⟩
  · unfold f_Nt_word
    rw [if_neg (show ¬ iI b < 0 from by simp (disch := omega) only [iI_lit, iL_lit, iI_add, iI_sub, iI_mul, iI_neg, iL_add, iL_sub, iL_mul, iL_neg, iI_lt, iI_le, iI_eq, iL_lt, iL_le, iL_eqS, iI_c, iI_ok, iI_l, iL_i, iI_low, l_ushrI, l_shlI, l_shrI, i_shlI, i_shrI, i_ushrI, iI_div, iL_div, Int.toNat_natCast, Int.reduceToNat, iI_ofNat]; omega), if_pos (show iI b < len from by rw [hlen]; simp (disch := omega) only [iI_lit, iL_lit, iI_add, iI_sub, iI_mul, iI_neg, iL_add, iL_sub, iL_mul, iL_neg, iI_lt, iI_le, iI_eq, iL_lt, iL_le, iL_eqS, iI_c, iI_ok, iI_l, iL_i, iI_low, l_ushrI, l_shlI, l_shrI, i_shlI, i_shrI, i_ushrI, iI_div, iL_div, Int.toNat_natCast, Int.reduceToNat, iI_ofNat]; omega)]
    exact e1
  · unfold f_Md_word f_Md_word_18
    have g : f_Md_good (1 : Int32) (1 : Int32) co = some (1, 0) := rfl
    rw [if_neg (show ¬ iI b < 0 from by simp (disch := omega) only [iI_lit, iL_lit, iI_add, iI_sub, iI_mul, iI_neg, iL_add, iL_sub, iL_mul, iL_neg, iI_lt, iI_le, iI_eq, iL_lt, iL_le, iL_eqS, iI_c, iI_ok, iI_l, iL_i, iI_low, l_ushrI, l_shlI, l_shrI, i_shlI, i_shrI, i_ushrI, iI_div, iL_div, Int.toNat_natCast, Int.reduceToNat, iI_ofNat]; omega), if_neg (show ¬ iI E.length ≤ iI b from by simp (disch := omega) only [iI_lit, iL_lit, iI_add, iI_sub, iI_mul, iI_neg, iL_add, iL_sub, iL_mul, iL_neg, iI_lt, iI_le, iI_eq, iL_lt, iL_le, iL_eqS, iI_c, iI_ok, iI_l, iL_i, iI_low, l_ushrI, l_shlI, l_shrI, i_shlI, i_shrI, i_ushrI, iI_div, iL_div, Int.toNat_natCast, Int.reduceToNat, iI_ofNat]; omega), g, Option.bind_some, if_neg (by decide)]
    rw [show (b : Int) + ((0 : Nat) : Int) = b by omega] at e2
    exact e2
set_option maxRecDepth 10000 in
theorem word_no {n : Nat} {len over : Int32} {cc rc : Nat → Int32} {E : List Int32} (hn : n = 32768) (hB : BY n len over cc E) (hE : E.length ≤ n) {a : Int} (h0 : -2147483648 ≤ a) (h1 : a < 2147483648) (ha : a < 0 ∨ (E.length : Int) ≤ a) (co : Int32) :
    t_Nt_word (iI a) n len cc = some 0 ∧ f_Md_word (iI a) (iI E.length) rc co = some (iL 0, iI 1) := by
  have hlen : len = iI E.length := by rw [hB.1]; congr 2; omega
  have e17 : f_Md_word_17 (iI a) (iI E.length) rc co = some (iL 0, iI 1) := rfl
  unfold t_Nt_word f_Md_word
  rw [e17, hlen]
  simp (disch := omega) only [iI_lit, iL_lit, iI_add, iI_sub, iI_mul, iI_neg, iL_add, iL_sub, iL_mul, iL_neg, iI_lt, iI_le, iI_eq, iL_lt, iL_le, iL_eqS, iI_c, iI_ok, iI_l, iL_i, iI_low, l_ushrI, l_shlI, l_shrI, i_shlI, i_shrI, i_ushrI, iI_div, iL_div, Int.toNat_natCast, Int.reduceToNat, iI_ofNat]
  by_cases q : a < 0
  · rw [if_pos q, if_pos q]; exact ⟨rfl, rfl⟩
  · rw [if_neg q, if_neg q, if_neg (by omega), if_pos (by omega)]; exact ⟨rfl, rfl⟩
