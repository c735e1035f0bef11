-- XH
set_option maxRecDepth 10000 in
theorem propF (x : Int32) (h : x = 0) : (x ≠ 0) = False := by simp [h]
set_option maxRecDepth 10000 in
theorem sciT_F {δ : Nat → Nat} {e a : Int} : sciT δ e a ((0 : Int32) ≠ 0) = sciT δ e a False := by simp only [propF 0 rfl]
set_option maxRecDepth 10000 in
theorem fixT_F {δ : Nat → Nat} {P a : Int} (g : Prop) [Decidable g] : fixT δ P g a ((0 : Int32) ≠ 0) = fixT δ P g a False := by simp only [propF 0 rfl]
set_option maxRecDepth 10000 in
def RW (v q : Int) (rn : Nat) (p : Int) (rd : Nat → Int32) : Prop := DL 1300 (iI rn) rd rn (dgV v q) ∧ rn < 1300 ∧ (rn = 0 ↔ v = 0) ∧ (v ≠ 0 → p = ptV v q) ∧ -1200 ≤ p ∧ p ≤ 400 ∧ -600 ≤ ptV v q ∧ ptV v q ≤ 400
set_option maxRecDepth 10000 in
theorem msciX {v q : Int} {rn : Nat} {p : Int} {rd : Nat → Int32} (hR : RW v q rn p rd) {a : Int} (a0 : 0 ≤ a) (a1 : a ≤ 9999) (sh cn cp : Int32) (cc : Nat → Int32) {bl : Int32} {bc : Nat → Int32} {E : List Int32} (h : TP bl bc E) (hE : E.length ≤ 20) :
    ∃ crn crp crd bl' bc', f_Md_scientific (iI a) sh (iI rn) (iI p) rd cn cp cc bl bc = some (crn, crp, crd, bl', bc') ∧ TP bl' bc' (E ++ sciX v q a (sh ≠ 0)) := by
  obtain ⟨hD, hrn, h0, hp, p0, p1, q0, q1⟩ := hR
  obtain ⟨x1, x2, x3, x4, x5, e, t⟩ := msci_spec hD hrn a0 a1 (p := p) (fun w => by have := hp (fun y => w (h0.mpr y)); omega) (by omega) sh cn cp cc h (by omega)
  refine ⟨x1, x2, x3, x4, x5, e, ?_⟩
  have ee : (if rn = 0 then 0 else p + rndC (dgV v q) (a + 1) - 1) = ptV v q + rndC (dgV v q) (a + 1) - 1 := by
    by_cases w : rn = 0
    · have hv := h0.mp w
      rw [if_pos w, rndC_0 (fun i => dgV_0 hv i)]
      have : ptV v q = 1 := if_pos hv
      omega
    · rw [if_neg w, hp (fun y => w (h0.mpr y))]
  unfold sciX
  rw [← ee]
  exact t
set_option maxRecDepth 10000 in
theorem mfixX {v q : Int} {rn : Nat} {p : Int} {rd : Nat → Int32} (hR : RW v q rn p rd) {a : Int} (a0 : 0 ≤ a) (a1 : a ≤ 10010) (g sh cn cp : Int32) (cc : Nat → Int32) {bl : Int32} {bc : Nat → Int32} {E : List Int32} (h : TP bl bc E) (hE : E.length ≤ 20) :
    ∃ crn crp crd bl' bc', f_Md_fixed (iI a) g sh (iI rn) (iI p) rd cn cp cc bl bc = some (crn, crp, crd, bl', bc') ∧ TP bl' bc' (E ++ fixX v q a (g ≠ 0) (sh ≠ 0)) := by
  obtain ⟨hD, hrn, h0, hp, p0, p1, q0, q1⟩ := hR
  obtain ⟨x1, x2, x3, x4, x5, e, t⟩ := mfix_spec hD hrn a0 a1 p0 p1 rfl g sh cn cp cc h hE
  refine ⟨x1, x2, x3, x4, x5, e, ?_⟩
  unfold fixX
  by_cases w : rn = 0
  · have hv := h0.mp w
    have hz : ∀ k, rndF (dgV v q) k = fun _ => 0 := fun k => funext (fun i => rndF_0 (fun i => dgV_0 hv i) k i)
    rw [hz, if_pos (Or.inl w)] at t
    rw [hz, if_pos (Or.inl hv)]
    exact t
  · have hv : v ≠ 0 := fun y => w (h0.mpr y)
    have epv := hp hv
    rw [if_neg w, epv] at t
    have : (rn = 0 ∨ ptV v q + a < 0 ∨ (ptV v q + a = 0 ∧ dgV v q 0 < 5)) = (v = 0 ∨ ptV v q + a < 0 ∨ (ptV v q + a = 0 ∧ dgV v q 0 < 5)) := by
      rw [propext h0]
    simp only [this] at t
    exact t
set_option maxRecDepth 10000 in
theorem mgenX {v q : Int} {rn : Nat} {p : Int} {rd : Nat → Int32} (hR : RW v q rn p rd) {a : Int} (a0 : 0 ≤ a) (a1 : a ≤ 9999) (g cn cp : Int32) (cc : Nat → Int32) {bl : Int32} {bc : Nat → Int32} {E : List Int32} (h : TP bl bc E) (hE : E.length ≤ 20) :
    ∃ crn crp crd bl' bc', f_Md_general (iI a) g (iI rn) (iI p) rd cn cp cc bl bc = some (crn, crp, crd, bl', bc') ∧ TP bl' bc' (E ++ genX v q a (g ≠ 0) False) := by
  have hR' := hR
  obtain ⟨hD, hrn, h0, hp, p0, p1, q0, q1⟩ := hR
  have e0 : f_Md_general (iI a) g (iI rn) (iI p) rd cn cp cc bl bc = f_Md_general_9 g (iI (max a 1)) (iI rn) (iI p) rd cn cp cc bl bc := by
    unfold f_Md_general
    by_cases w : a = 0
    · rw [if_pos (show iI a = 0 from by rw [w]; rfl), w]; rfl
    · rw [if_neg (show ¬ iI a = 0 from by simp (disch := omega) only [iI_lit, iL_lit, iI_add, iI_sub, iI_mul, iI_neg, iL_add, iL_sub, iL_mul, iL_neg, iI_lt, iI_le, iI_eq, iL_lt, iL_le, iL_eqS, iI_c, iI_ok, iI_l, iL_i, iI_low, l_ushrI, l_shlI, l_shrI, i_shlI, i_shrI, i_ushrI, iI_div, iL_div, Int.toNat_natCast, Int.reduceToNat, iI_ofNat]; omega), show max a 1 = a by omega]
  rw [e0]
  unfold f_Md_general_9 f_Md_general_75
  have hm1 : 1 ≤ max a 1 := by omega
  have hm2 : max a 1 ≤ 9999 := by omega
  unfold genX
  obtain ⟨d, hd⟩ : ∃ d : Nat, max a 1 = (d : Int) := ⟨(max a 1).toNat, by omega⟩
  rw [hd] at hm1 hm2 ⊢
  by_cases w : rn = 0
  · have hv := h0.mp w
    rw [if_pos (show iI (rn : Int) = 0 from by rw [w]; rfl), show (1 : Int32) = iI 1 from rfl, iI_sub]
    obtain ⟨x1, x2, x3, x4, x5, e, t⟩ := mfixX hR' (a := (d : Int) - 1) (by omega) (by omega) g 0 cn cp cc h hE
    rw [e, Option.bind_some]
    refine ⟨_, _, _, _, _, rfl, ?_⟩
    have hz : ∀ k, rndF (dgV v q) k = fun _ => 0 := fun k => funext (fun i => rndF_0 (fun i => dgV_0 hv i) k i)
    have hP : ptV v q = 1 := if_pos hv
    have hc0 := rndC_0 (fun i => dgV_0 (q := q) hv i) (d : Int)
    rw [hP, hc0, if_neg (by omega), hz]
    unfold fixX at t
    rw [hz, if_pos (Or.inl hv), fixT_F] at t
    exact t
  · have hv : v ≠ 0 := fun y => w (h0.mpr y)
    have epv := hp hv
    have hrc := rndC_b (dgV v q) (d : Int)
    rw [if_neg (show ¬ iI (rn : Int) = 0 from by simp (disch := omega) only [iI_lit, iL_lit, iI_add, iI_sub, iI_mul, iI_neg, iL_add, iL_sub, iL_mul, iL_neg, iI_lt, iI_le, iI_eq, iL_lt, iL_le, iL_eqS, iI_c, iI_ok, iI_l, iL_i, iI_low, l_ushrI, l_shlI, l_shrI, i_shlI, i_shrI, i_ushrI, iI_div, iL_div, Int.toNat_natCast, Int.reduceToNat, iI_ofNat]; omega)]
    obtain ⟨n', c', e1, hC, hn0⟩ := rnd2_spec hD hrn (k := (d : Int)) (p := p) (by omega) (by omega) cn cp cc
    rw [e1, Option.bind_some]
    dsimp only
    rw [epv]
    have sci : ∃ crn crp crd bl' bc', ((f_Md_scientific (iI (d : Int) - (1 : Int32)) (0 : Int32) (iI rn) (iI (ptV v q)) rd (iI n') (iI (ptV v q + rndC (dgV v q) (d : Int))) c' bl bc).bind fun u82 => some (u82.1, u82.2.1, u82.2.2.1, u82.2.2.2.1, u82.2.2.2.2)) = some (crn, crp, crd, bl', bc') ∧ TP bl' bc' (E ++ sciT (rndF (dgV v q) (d : Int)) (ptV v q + rndC (dgV v q) (d : Int) - 1) ((d : Int) - 1) False) := by
      rw [epv] at hR'
      obtain ⟨x1, x2, x3, x4, x5, e, t⟩ := msciX hR' (a := (d : Int) - 1) (by omega) (by omega) 0 (iI n') (iI (ptV v q + rndC (dgV v q) (d : Int))) c' h hE
      rw [show (1 : Int32) = iI 1 from rfl, iI_sub, e, Option.bind_some]
      refine ⟨_, _, _, _, _, rfl, ?_⟩
      unfold sciX at t
      rw [show (d : Int) - 1 + 1 = (d : Int) by omega, sciT_F] at t
      exact t
    by_cases w1 : ptV v q + rndC (dgV v q) (d : Int) < -3
    · rw [if_pos (show iI (ptV v q + rndC (dgV v q) (d : Int)) < -3 from by simp (disch := omega) only [iI_lit, iL_lit, iI_add, iI_sub, iI_mul, iI_neg, iL_add, iL_sub, iL_mul, iL_neg, iI_lt, iI_le, iI_eq, iL_lt, iL_le, iL_eqS, iI_c, iI_ok, iI_l, iL_i, iI_low, l_ushrI, l_shlI, l_shrI, i_shlI, i_shrI, i_ushrI, iI_div, iL_div, Int.toNat_natCast, Int.reduceToNat, iI_ofNat]; omega), if_pos (Or.inl w1)]
      exact sci
    · rw [if_neg (show ¬ iI (ptV v q + rndC (dgV v q) (d : Int)) < -3 from by simp (disch := omega) only [iI_lit, iL_lit, iI_add, iI_sub, iI_mul, iI_neg, iL_add, iL_sub, iL_mul, iL_neg, iI_lt, iI_le, iI_eq, iL_lt, iL_le, iL_eqS, iI_c, iI_ok, iI_l, iL_i, iI_low, l_ushrI, l_shlI, l_shrI, i_shlI, i_shrI, i_ushrI, iI_div, iL_div, Int.toNat_natCast, Int.reduceToNat, iI_ofNat]; omega)]
      by_cases w2 : (d : Int) < ptV v q + rndC (dgV v q) (d : Int)
      · rw [if_pos (show iI (d : Int) < iI (ptV v q + rndC (dgV v q) (d : Int)) from by simp (disch := omega) only [iI_lit, iL_lit, iI_add, iI_sub, iI_mul, iI_neg, iL_add, iL_sub, iL_mul, iL_neg, iI_lt, iI_le, iI_eq, iL_lt, iL_le, iL_eqS, iI_c, iI_ok, iI_l, iL_i, iI_low, l_ushrI, l_shlI, l_shrI, i_shlI, i_shrI, i_ushrI, iI_div, iL_div, Int.toNat_natCast, Int.reduceToNat, iI_ofNat]; omega), if_pos (Or.inr w2)]
        exact sci
      · rw [if_neg (show ¬ iI (d : Int) < iI (ptV v q + rndC (dgV v q) (d : Int)) from by simp (disch := omega) only [iI_lit, iL_lit, iI_add, iI_sub, iI_mul, iI_neg, iL_add, iL_sub, iL_mul, iL_neg, iI_lt, iI_le, iI_eq, iL_lt, iL_le, iL_eqS, iI_c, iI_ok, iI_l, iL_i, iI_low, l_ushrI, l_shlI, l_shrI, i_shlI, i_shrI, i_ushrI, iI_div, iL_div, Int.toNat_natCast, Int.reduceToNat, iI_ofNat]; omega), if_neg (by omega), iI_sub]
        rw [epv] at hR'
        obtain ⟨x1, x2, x3, x4, x5, e, t⟩ := mfixX hR' (a := (d : Int) - (ptV v q + rndC (dgV v q) (d : Int))) (by omega) (by omega) g 0 (iI n') (iI (ptV v q + rndC (dgV v q) (d : Int))) c' h hE
        rw [e, Option.bind_some]
        refine ⟨_, _, _, _, _, rfl, ?_⟩
        unfold fixX at t
        rw [fixT_F] at t
        rcases rndC_01 (dgV v q) (d : Int) with r | r
        · rw [r, Int.add_zero] at t ⊢
          rw [show ptV v q + ((d : Int) - ptV v q) = (d : Int) by omega, r, if_neg (fun x => by rcases x with x | x | x; exact hv x; omega; omega), Int.add_zero] at t
          exact t
        · obtain ⟨r1, r2, r3, r4⟩ := rnd_carry (by omega) r
          rw [r] at t ⊢
          rw [show ptV v q + ((d : Int) - (ptV v q + 1)) = ((d - 1 : Nat) : Int) by omega, r2, r3, if_neg (fun x => by rcases x with x | x | x; exact hv x; omega; omega)] at t
          rw [r1]
          exact t
-- XI
set_option maxRecDepth 10000 in
theorem size2_spec {s : Nat} (hs : s < 2) {u : Int} (h0 : 0 ≤ u) (h1 : u < 18446744073709551616) : ∃ sg, f_Md_sign (iI (szD s)) = some sg ∧ ((iL u &&& sg = iL 0) = (u / 2 ^ szS s % 2 = 0)) ∧ (iL u &&& (sg ^^^ iL (-1))) &&& (if s = 0 then iL (-1) else iL 4294967295) = iL (u % 2 ^ szS s) := by
  have : s = 0 ∨ s = 1 := by omega
  rcases this with rfl | rfl
  · exact size_spec (by omega) ⟨h0, by rw [if_pos rfl]; exact h1⟩
  · refine ⟨iL (2 ^ 31), by decide +kernel, and_bit h0 (by omega) (by omega), ?_⟩
    rw [if_neg (by decide)]
    have comm : ∀ a b c : Int64, (a &&& b) &&& c = (a &&& c) &&& b := by
      intro a b c
      apply Int64.toBitVec_inj.mp
      simp only [Int64.toBitVec_and]
      rw [BitVec.and_assoc, BitVec.and_assoc, BitVec.and_comm b.toBitVec]
    rw [comm, iL_lowL h0 h1, show (2 : Int) ^ 31 = 2147483648 from rfl, mask31 (by omega) (by omega)]
    show iL (u % 4294967296 % 2147483648) = iL (u % 2147483648)
    congr 1; omega
set_option maxRecDepth 10000 in
theorem row_RW {C q : Int} (hC0 : 0 ≤ C) (hC1 : C < 72057594037927936) (hq0 : -1074 ≤ q) (hq1 : q ≤ 971) (us rn rp : Int32) (c : Nat → Int32) (lc : Nat → Int64) :
    ∃ (us' : Int32) (t : Nat) (c' : Nat → Int32) (lc' : Nat → Int64) (p : Int), f_Md_row (iL C) (iI q) us rn c lc rp = some (us', iI t, c', lc', iI p) ∧ RW C q t p c' := by
  have hb : mantI C q < 2 ^ 2600 := by
    by_cases hv : C = 0
    · have : mantI C q = 0 := by unfold mantI; rw [hv, Int.zero_mul]
      rw [this]; exact p2_pos _
    · exact (mant_b (C := C) (Q := q) (by omega) hC1 (by omega) (by omega)).2
  have hnn : 0 ≤ mantI C q := by
    unfold mantI
    apply Int.mul_nonneg hC0
    split
    · exact Int.le_of_lt (p2_pos _)
    · exact Int.le_of_lt (p5_pos _)
  obtain ⟨us', t, c', lc', e, hst, hD⟩ := row_spec hC0 (by omega) (by omega) (by omega) hb us rn rp c lc
  obtain ⟨v0, v1⟩ := ptV_b hC0 hC1 hq0 hq1
  have hnd : nd (mantI C q).toNat ≤ 800 := nd_le_of (Nat.lt_of_lt_of_le (te_big (N := (mantI C q).toNat) (by rw [Int.toNat_of_nonneg hnn]; exact hb)) (p10_mono (by omega)))
  have htn := strip_le hst
  have h0 : t = 0 ↔ C = 0 := by
    constructor
    · intro w
      apply Classical.byContradiction
      intro hC
      have := (mant_b (C := C) (Q := q) (by omega) hC1 (by omega) (by omega)).1
      exact absurd (hst.1 0 (by omega)) (digF_0 (show 0 < (mantI C q).toNat by omega))
    · intro w
      have : mantI C q = 0 := by unfold mantI; rw [w, Int.zero_mul]
      rw [this, show (0 : Int).toNat = 0 from rfl, nd_zero] at htn
      omega
  have hp : C ≠ 0 → (nd (mantI C q).toNat : Int) + min q 0 = ptV C q := fun w => by unfold ptV; rw [if_neg w]; rfl
  refine ⟨us', t, c', lc', _, e, hD, by omega, h0, hp, ?_, ?_, v0, v1⟩
  · by_cases w : C = 0
    · omega
    · have := hp w; omega
  · by_cases w : C = 0
    · have : mantI C q = 0 := by unfold mantI; rw [w, Int.zero_mul]
      rw [this, show (0 : Int).toNat = 0 from rfl, nd_zero]
      omega
    · have := hp w; omega
set_option maxRecDepth 10000 in
theorem mreal114 {s : Nat} (hs : s < 2) {z : Int} (z0 : 0 ≤ z) (z1 : z < 9223372036854775808) {o : Nat} {W : List Int} (hW : LW o W) (hWl : W.length ≤ 8) (un us en ep crn crp ng no : Int32) (ed crd sp : Nat → Int32) (lc : Nat → Int64) :
    ∀ (w : List Int) (j m : Nat) (bl : Int32) (bc : Nat → Int32) (E : List Int32), w = W.drop j → j ≤ W.length → w.length < m → TP bl bc E → E.length + 10 < 12000 → j ≤ E.length → E.length ≤ 20 + j → ∃ bl' bc', f_Md_real_114 m (iL z) o (iI j) (iI (szD s)) un (iI (szL s)) us en ed lc ep crn crp crd bl sp ng no bc = some (un, us, en, ed, lc, ep, crn, crp, crd, bl', sp, ng, (if (2 ^ szK s - 1) * 2 ^ (szD s - 1) < z then iI 1 else iI 0), bc') ∧ TP bl' bc' (E ++ w.map iI)
  | [], j, m + 1, bl, bc, E, hw, hj, hm, h, hE, _, _ => by
    have hjl : j = W.length := by
      have := congrArg List.length hw
      simp at this
      omega
    rw [f_Md_real_114, if_pos hW.1, slen_spec hW.1, Option.bind_some, hW.2.2.1, if_pos (show iI ((W.length : Nat) : Int) ≤ iI (j : Int) from by simp (disch := omega) only [iI_lit, iL_lit, iI_add, iI_sub, iI_mul, iI_neg, iL_add, iL_sub, iL_mul, iL_neg, iI_lt, iI_le, iI_eq, iL_lt, iL_le, iL_eqS, iI_c, iI_ok, iI_l, iL_i, iI_low, l_ushrI, l_shlI, l_shrI, i_shlI, i_shrI, i_ushrI, iI_div, iL_div, Int.toNat_natCast, Int.reduceToNat, iI_ofNat]; omega), none_spec hs z0 z1, Option.bind_some]
    have : gx_bo (if (2 ^ szK s - 1) * 2 ^ (szD s - 1) < z then iI 1 else iI 0) = true := by split <;> decide
    rw [if_pos this, List.map_nil, List.append_nil]
    exact ⟨bl, bc, rfl, h⟩
  | b :: w, j, m + 1, bl, bc, E, hw, hj, hm, h, hE, k1, k2 => by
    have hjl : j < W.length := by
      have := congrArg List.length hw
      simp at this
      omega
    have hget : W[j]? = some b := by
      have : (W.drop j)[0]? = some b := by rw [← hw]; rfl
      rwa [List.getElem?_drop] at this
    have hmem : b ∈ W := List.mem_of_getElem? hget
    have hb := hW.2.2.2 b hmem
    have hw' : w = W.drop (j + 1) := by
      have : (b :: w).drop 1 = (W.drop j).drop 1 := by rw [hw]
      rw [List.drop_drop] at this
      simpa using this
    have hch : (gl_byt.getD o [])[j]? = some (iI b) := by rw [hW.2.1, List.getElem?_map, hget]; rfl
    rw [f_Md_real_114, if_pos hW.1, slen_spec hW.1, Option.bind_some, hW.2.2.1, if_neg (show ¬ iI ((W.length : Nat) : Int) ≤ iI (j : Int) from by simp (disch := omega) only [iI_lit, iL_lit, iI_add, iI_sub, iI_mul, iI_neg, iL_add, iL_sub, iL_mul, iL_neg, iI_lt, iI_le, iI_eq, iL_lt, iL_le, iL_eqS, iI_c, iI_ok, iI_l, iL_i, iI_low, l_ushrI, l_shlI, l_shrI, i_shlI, i_shrI, i_ushrI, iI_div, iL_div, Int.toNat_natCast, Int.reduceToNat, iI_ofNat]; omega), if_pos hW.1, charAt_spec hW.1 hch, Option.bind_some]
    obtain ⟨b1, c1, e1, t1⟩ := madd_i h (by omega) (a := b) hb.1 hb.2
    rw [e1, Option.bind_some, show iI (j : Int) + 1 = iI ((j + 1 : Nat) : Int) from by rw [show (1 : Int32) = iI 1 from rfl, iI_add]; rfl]
    obtain ⟨b2, c2, e2, t2⟩ := mreal114 hs z0 z1 hW hWl un us en ep crn crp ng no ed crd sp lc w (j + 1) m b1 c1 _ hw' (by omega) (by simp at hm; omega) t1 (by simp; omega) (by simp; omega) (by simp; omega)
    refine ⟨b2, c2, e2, ?_⟩
    rw [List.map_cons, show iI b :: w.map iI = [iI b] ++ w.map iI from rfl, ← List.append_assoc]
    exact t2
set_option maxRecDepth 10000 in
def realT (s : Nat) (u le a : Int) (g sh : Prop) [Decidable g] [Decidable sh] : List Int32 := if biN s u = 1 then wN.map iI else if biI s u = 1 then wI.map iI else decX le (biC s u) (biQ s u) a g sh
set_option maxRecDepth 10000 in
theorem TP_nil0 (bc : Nat → Int32) : TP (0 : Int32) bc [] := ⟨rfl, fun i x h => by simp at h, fun x h => by simp at h⟩
set_option maxRecDepth 10000 in
theorem decX_F {le v q a : Int} (hle : le = 103) (g sh : Prop) [Decidable g] [Decidable sh] (hsh : ¬ sh) : decX le v q a g sh = genX v q a g False := by
  unfold decX
  rw [if_neg (by omega), if_pos hle]
  have : sh = False := propext ⟨hsh, False.elim⟩
  simp only [this]
set_option maxRecDepth 10000 in
theorem biS_N {s : Nat} {u : Int} (h : biN s u = 1) : biS s u = 0 := by
  unfold biN at h
  unfold biS
  by_cases q : biX s u = 2 ^ szK s - 1 ∧ biF s u ≠ 0
  · rw [if_pos q]
  · rw [if_neg q] at h; exact absurd h (by decide)
set_option maxRecDepth 10000 in
theorem biN_01 (s : Nat) (u : Int) : biN s u = 0 ∨ biN s u = 1 := by unfold biN; split <;> simp
set_option maxRecDepth 10000 in
theorem biI_01 (s : Nat) (u : Int) : biI s u = 0 ∨ biI s u = 1 := by unfold biI; split <;> simp
set_option maxRecDepth 10000 in
theorem biS_01 (s : Nat) (u : Int) : biS s u = 0 ∨ biS s u = 1 := by unfold biS; split <;> omega
set_option maxRecDepth 10000 in
theorem biNI {s : Nat} {u : Int} (h : biN s u = 1) : biI s u = 0 := by
  unfold biN at h
  unfold biI
  by_cases q : biX s u = 2 ^ szK s - 1 ∧ biF s u ≠ 0
  · rw [if_neg (fun x => q.2 x.2)]
  · rw [if_neg q] at h; exact absurd h (by decide)
set_option maxRecDepth 10000 in
theorem mreal53 {s : Nat} (hs : s < 2) {u : Int} (h0 : 0 ≤ u) (h1 : u < 18446744073709551616) (le a g sh : Int32) (un us en ep crn crp bl ng no : Int32) (ed crd sp bc : Nat → Int32) (lc : Nat → Int64) :
    f_Md_real le a g sh (iL u) (iI (szD s)) un (iI (szL s)) us en ed lc ep crn crp crd bl sp ng no bc = f_Md_real_83 le a g sh (iL (u % 2 ^ szS s)) (iI (biS s u)) (iI (szD s)) (iI (if biN s u = 1 ∨ biI s u = 1 then 1 else 0)) (iI (szL s)) us en ed lc ep crn crp crd 0 sp ng no bc := by
  obtain ⟨sg, hsg, hsb, hsz⟩ := size2_spec hs h0 h1
  obtain ⟨b1, b2, b3, b4, b5, b6⟩ := bi_z hs h0
  obtain ⟨z0, z1⟩ := szS_le (s := s) u
  have ib := inf_b hs
  have e0 : f_Md_real le a g sh (iL u) (iI (szD s)) un (iI (szL s)) us en ed lc ep crn crp crd bl sp ng no bc = f_Md_real_29 le a g sh (iL u) (if s = 0 then iL (-1) else iL 4294967295) (iL u &&& (sg ^^^ iL (-1))) (iI (szD s)) un (iI (szL s)) us en ed lc ep crn crp crd bl sp ng no bc := by
    unfold f_Md_real
    rw [hsg, Option.bind_some]
    have : s = 0 ∨ s = 1 := by omega
    rcases this with rfl | rfl
    · rw [if_pos (show iI (szD 0) = 53 from by decide), if_pos rfl]; rfl
    · rw [if_neg (show ¬ iI (szD 1) = 53 from by decide), if_neg (by decide)]; rfl
  rw [e0]
  unfold f_Md_real_29
  rw [hsz, inf_spec hs, Option.bind_some]
  have e1 : (if iL (u % 2 ^ szS s) < iL ((2 ^ szK s - 1) * 2 ^ (szD s - 1)) then f_Md_real_53 le a g sh (iL u) (iL (u % 2 ^ szS s)) (0 : Int32) (iI (szD s)) un (iI (szL s)) us en ed lc ep crn crp crd (0 : Int32) sp ng no bc else f_Md_real_53 le a g sh (iL u) (iL (u % 2 ^ szS s)) (1 : Int32) (iI (szD s)) un (iI (szL s)) us en ed lc ep crn crp crd (0 : Int32) sp ng no bc) = f_Md_real_53 le a g sh (iL u) (iL (u % 2 ^ szS s)) (iI (if biN s u = 1 ∨ biI s u = 1 then 1 else 0)) (iI (szD s)) un (iI (szL s)) us en ed lc ep crn crp crd (0 : Int32) sp ng no bc := by
    by_cases w : u % 2 ^ szS s < (2 ^ szK s - 1) * 2 ^ (szD s - 1)
    · rw [if_pos (show iL (u % 2 ^ szS s) < iL ((2 ^ szK s - 1) * 2 ^ (szD s - 1)) from by rw [iL_lt (by omega) (by omega) (by omega) (by omega)]; exact w), if_neg (show ¬ (biN s u = 1 ∨ biI s u = 1) from fun x => by
        rcases x with x | x
        · have := b1.mpr x; omega
        · have := b2.mpr x; omega)]
      rfl
    · rw [if_neg (show ¬ iL (u % 2 ^ szS s) < iL ((2 ^ szK s - 1) * 2 ^ (szD s - 1)) from by rw [iL_lt (by omega) (by omega) (by omega) (by omega)]; exact w), if_pos (show biN s u = 1 ∨ biI s u = 1 from by
        by_cases x : u % 2 ^ szS s = (2 ^ szK s - 1) * 2 ^ (szD s - 1)
        · exact Or.inr (b2.mp x)
        · exact Or.inl (b1.mp (by omega)))]
      rfl
  rw [e1]
  unfold f_Md_real_53 f_Md_real_82
  have hbo : gx_bo (iI (if biN s u = 1 ∨ biI s u = 1 then 1 else 0)) = true := by split <;> decide
  rw [if_pos hbo, none_spec hs z0 z1, Option.bind_some, hsg, Option.bind_some]
  by_cases w : (2 ^ szK s - 1) * 2 ^ (szD s - 1) < u % 2 ^ szS s
  · rw [if_pos w, if_neg (show ¬ iI 1 = 0 from by decide), biS_N (b1.mp w)]
    rfl
  · rw [if_neg w, if_pos (show iI 0 = 0 from rfl)]
    have hnN : biN s u ≠ 1 := fun x => w (b1.mpr x)
    rw [b6 hnN]
    have hsb' : (iL u &&& sg = (0 : Int64)) = (u / 2 ^ szS s % 2 = 0) := hsb
    simp only [hsb']
    by_cases v : u / 2 ^ szS s % 2 = 0
    · rw [if_pos v, v]; rfl
    · rw [if_neg v, show u / 2 ^ szS s % 2 = 1 by omega]; rfl
set_option maxRecDepth 10000 in
theorem biCQ {s : Nat} (hs : s < 2) {u : Int} (h0 : 0 ≤ u) (hN : biN s u ≠ 1) (hI : biI s u ≠ 1) : 0 ≤ biC s u ∧ biC s u < 9007199254740992 ∧ -1074 ≤ biQ s u ∧ biQ s u ≤ 971 := by
  obtain ⟨b1, b2, b3, b4, b5, b6⟩ := bi_z hs h0
  obtain ⟨z0, z1⟩ := szS_le (s := s) u
  have hlt : u % 2 ^ szS s < (2 ^ szK s - 1) * 2 ^ (szD s - 1) := by
    rcases Int.lt_trichotomy (u % 2 ^ szS s) ((2 ^ szK s - 1) * 2 ^ (szD s - 1)) with w | w | w
    · exact w
    · exact absurd (b2.mp w) hI
    · exact absurd (b1.mp w) hN
  rw [← b3, ← b4]
  obtain ⟨q1, q2, q3⟩ := mQ_b hs z0 hlt
  have hP := p2_pos (szD s - 1)
  have hL := sz_p hs
  have hc : 0 ≤ mC s (u % 2 ^ szS s) ∧ mC s (u % 2 ^ szS s) < 9007199254740992 := by
    by_cases r : u % 2 ^ szS s = 0
    · rw [r]
      have : mC s 0 = 0 := by unfold mC; rw [if_pos hP]
      omega
    · have := mC_b hs (show 0 < u % 2 ^ szS s by omega); omega
  refine ⟨hc.1, hc.2, by omega, ?_⟩
  have a1 : u % 2 ^ szS s / 2 ^ (szD s - 1) < 2 ^ szK s - 1 := Int.ediv_lt_of_lt_mul hP hlt
  have a2 : (2 : Int) ^ szK s - 1 = szG s - szL s + 2 ∧ szG s ≤ 971 ∧ szL s ≤ 0 := by
    rcases sz_cases hs with h | h
    · obtain ⟨_, h1, h2, h3, _, h5⟩ := h; rw [h2, h3, h5]; decide
    · obtain ⟨_, h1, h2, h3, _, h5⟩ := h; rw [h2, h3, h5]; decide
  unfold mQ
  split <;> omega
-- XJ
set_option maxRecDepth 10000 in
theorem mreal_spec {s : Nat} (hs : s < 2) {u : Int} (h0 : 0 ≤ u) (h1 : u < 18446744073709551616) {le a : Int} (hle : le = 101 ∨ le = 102 ∨ le = 103) (a0 : 0 ≤ a) (a1 : a ≤ 9999) (g sh : Int32) (hsh : le = 103 → sh = 0) (un us en ep crn crp bl ng no : Int32) (ed crd sp bc : Nat → Int32) (lc : Nat → Int64) :
    ∃ us' en' ed' lc' ep' crn' crp' crd' bl' bc', f_Md_real (iI le) (iI a) g sh (iL u) (iI (szD s)) un (iI (szL s)) us en ed lc ep crn crp crd bl sp ng no bc = some (iI (if biN s u = 1 ∨ biI s u = 1 then 1 else 0), us', en', ed', lc', ep', crn', crp', crd', bl', sp, iI (biS s u), iI (biN s u), bc') ∧ TP bl' bc' (realT s u le a (g ≠ 0) (sh ≠ 0)) := by
  obtain ⟨b1, b2, b3, b4, b5, b6⟩ := bi_z hs h0
  obtain ⟨z0, z1⟩ := szS_le (s := s) u
  have hN01 := biN_01 s u
  have hI01 := biI_01 s u
  rw [mreal53 hs h0 h1]
  unfold f_Md_real_83
  have hbo : gx_bo (iI (biS s u)) = true := by rcases biS_01 s u with r | r <;> rw [r] <;> decide
  rw [if_pos hbo]
  unfold realT
  by_cases qN : biN s u = 1
  · have hz := b1.mpr qN
    rw [if_pos (Or.inl qN), if_neg (show ¬ iI 1 = 0 from by decide), none_spec hs z0 z1, Option.bind_some, if_pos hz, if_neg (show ¬ iI 1 = 0 from by decide), if_pos qN]
    unfold f_Md_real_109
    obtain ⟨b, c, e, t⟩ := mreal114 hs z0 z1 LW45 (by decide) (iI 1) us en ep crn crp (iI (biS s u)) no ed crd sp lc wN 0 gx_fu 0 bc [] rfl (by omega) (by decide) (TP_nil0 bc) (by decide) (by decide) (by decide)
    rw [if_pos hz] at e
    rw [qN]
    exact ⟨_, _, _, _, _, _, _, _, b, c, e, t⟩
  · rw [if_neg qN]
    have hz : ¬ (2 ^ szK s - 1) * 2 ^ (szD s - 1) < u % 2 ^ szS s := fun x => qN (b1.mp x)
    have hN0 : biN s u = 0 := by omega
    by_cases qI : biI s u = 1
    · rw [if_pos (Or.inr qI), if_neg (show ¬ iI 1 = 0 from by decide), none_spec hs z0 z1, Option.bind_some, if_neg hz, if_pos (show iI 0 = 0 from rfl), if_pos qI]
      unfold f_Md_real_109
      obtain ⟨b, c, e, t⟩ := mreal114 hs z0 z1 LW46 (by decide) (iI 1) us en ep crn crp (iI (biS s u)) no ed crd sp lc wI 0 gx_fu 0 bc [] rfl (by omega) (by decide) (TP_nil0 bc) (by decide) (by decide) (by decide)
      rw [if_neg hz] at e
      rw [hN0]
      exact ⟨_, _, _, _, _, _, _, _, b, c, e, t⟩
    · have hnn : ¬ (biN s u = 1 ∨ biI s u = 1) := fun x => by rcases x with x | x; exact qN x; exact qI x
      rw [if_neg hnn, if_pos (show iI 0 = 0 from rfl), if_neg qI, hN0]
      have hlt : u % 2 ^ szS s < (2 ^ szK s - 1) * 2 ^ (szD s - 1) := by
        rcases Int.lt_trichotomy (u % 2 ^ szS s) ((2 ^ szK s - 1) * 2 ^ (szD s - 1)) with w | w | w
        · exact w
        · exact absurd (b2.mp w) qI
        · exact absurd w hz
      obtain ⟨q1, q2, q3⟩ := mQ_b hs z0 hlt
      obtain ⟨c0, c1, cq0, cq1⟩ := biCQ hs h0 qN qI
      rw [if_neg (show ¬ iI le = 97 from by simp (disch := omega) only [iI_lit, iL_lit, iI_add, iI_sub, iI_mul, iI_neg, iL_add, iL_sub, iL_mul, iL_neg, iI_lt, iI_le, iI_eq, iL_lt, iL_le, iL_eqS, iI_c, iI_ok, iI_l, iL_i, iI_low, l_ushrI, l_shlI, l_shrI, i_shlI, i_shrI, i_ushrI, iI_div, iL_div, Int.toNat_natCast, Int.reduceToNat, iI_ofNat]; omega), mc_spec hs z0 z1, Option.bind_some, mq_spec hs z0 z1 q3, Option.bind_some, b3, b4]
      obtain ⟨us', t, rd, lc', p, er, hR⟩ := row_RW c0 (by omega) cq0 cq1 us en ep ed lc
      rw [er, Option.bind_some]
      dsimp only
      unfold decX
      rcases hle with rfl | rfl | rfl
      · rw [if_pos (show iI 101 = 101 from rfl), if_pos rfl]
        obtain ⟨x1, x2, x3, x4, x5, e, tt⟩ := msciX hR a0 a1 sh crn crp crd (TP_nil0 bc) (by decide)
        rw [e, Option.bind_some]
        exact ⟨_, _, _, _, _, _, _, _, x4, x5, rfl, tt⟩
      · rw [if_neg (show ¬ iI 102 = 101 from by decide), if_pos (show iI 102 = 102 from rfl), if_neg (by decide), if_neg (by decide)]
        obtain ⟨x1, x2, x3, x4, x5, e, tt⟩ := mfixX hR a0 (by omega) g sh crn crp crd (TP_nil0 bc) (by decide)
        rw [e, Option.bind_some]
        exact ⟨_, _, _, _, _, _, _, _, x4, x5, rfl, tt⟩
      · rw [if_neg (show ¬ iI 103 = 101 from by decide), if_neg (show ¬ iI 103 = 102 from by decide), if_neg (by decide), if_pos rfl]
        obtain ⟨x1, x2, x3, x4, x5, e, tt⟩ := mgenX hR a0 a1 g crn crp crd (TP_nil0 bc) (by decide)
        rw [e, Option.bind_some]
        refine ⟨_, _, _, _, _, _, _, _, x4, x5, rfl, ?_⟩
        have : (sh ≠ 0) = False := propF sh (hsh rfl)
        simp only [this]
        exact tt
-- XK
set_option maxRecDepth 10000 in
abbrev T23 := Int32 × Int32 × Int32 × Int32 × Int32 × Int32 × (Nat → Int32) × (Nat → Int64) × Int32 × Int32 × Int32 × (Nat → Int32) × Int32 × (Nat → Int32) × Int32 × Int32 × Int32 × (Nat → Int32) × Int32 × Int32 × (Nat → Int32) × (Nat → Int32) × Nat
set_option maxRecDepth 10000 in
abbrev π23 (r : T23) : Nat := r.2.2.2.2.2.2.2.2.2.2.2.2.2.2.2.2.2.2.2.2.2.2
set_option maxRecDepth 10000 in
def SH (r : T23) (F : List Int32) (co : Int32) : Prop := r.1 = iI F.length ∧ r.2.2.2.2.2.2.2.2.2.2.2.2.2.2.2.2.1 = iI F.length ∧ r.2.2.2.2.2.2.2.2.2.2.2.2.2.2.2.2.2.2.1 = co ∧ ∀ j x, F[j]? = some x → r.2.2.2.2.2.2.2.2.2.2.2.2.2.2.2.2.2.2.2.2.1 j = x
set_option maxRecDepth 10000 in
theorem show95 {B : List Int32} {bo : Int32} {bc : Nat → Int32} (hT : TP bo bc B) (hB : B.length < 12000) {L : Nat} (hL2 : L ≤ 200000) (bi un le us en ep crn crp ng ln co no : Int32) (ed crd sp rc : Nat → Int32) (lc : Nat → Int64) :
    ∀ (d j m : Nat) (h : Int32) (c : Nat → Int32) (bl : Nat) (E : List Int32), j + d = B.length → d < m → MB h c bl E → E.length + d < L → E.length + d ≤ 32768 → bl ≤ 400000 → OUT π23 (f_Md_show_95 m (iI j) bi un le us en ed lc ep crn crp crd bo sp ng h ln bc co no rc c bl) bl L (fun r => SH r (E ++ B.drop j) co)
  | 0, j, m + 1, h, c, bl, E, hj, hm, hM, hL, hE, hbl => by
    obtain ⟨rfl, h2, h3⟩ := hT
    rw [f_Md_show_95, if_pos (show iI (B.length : Int) ≤ iI (j : Int) from by simp (disch := omega) only [iI_lit, iL_lit, iI_add, iI_sub, iI_mul, iI_neg, iL_add, iL_sub, iL_mul, iL_neg, iI_lt, iI_le, iI_eq, iL_lt, iL_le, iL_eqS, iI_c, iI_ok, iI_l, iL_i, iI_low, l_ushrI, l_shlI, l_shrI, i_shlI, i_shrI, i_ushrI, iI_div, iL_div, Int.toNat_natCast, Int.reduceToNat, iI_ofNat]; omega)]
    obtain ⟨rc', e, g⟩ := give_spec hM (by omega) hbl ln rc
    rw [e, Option.bind_some]
    have : B.drop j = [] := List.drop_of_length_le (by omega)
    rw [this, List.append_nil]
    exact ⟨_, rfl, Nat.le_refl _, Nat.le_max_left _ _, rfl, rfl, rfl, g⟩
  | d + 1, j, m + 1, h, c, bl, E, hj, hm, hM, hL, hE, hbl => by
    have hT' := hT
    obtain ⟨rfl, h2, h3⟩ := hT
    have hget : B[j]? = some B[j] := List.getElem?_eq_getElem (by omega)
    have hx := h2 j B[j] hget
    have hsx := h3 B[j] (List.getElem_mem (by omega))
    rw [f_Md_show_95, if_neg (show ¬ iI (B.length : Int) ≤ iI (j : Int) from by simp (disch := omega) only [iI_lit, iL_lit, iI_add, iI_sub, iI_mul, iI_neg, iL_add, iL_sub, iL_mul, iL_neg, iI_lt, iI_le, iI_eq, iL_lt, iL_le, iL_eqS, iI_c, iI_ok, iI_l, iL_i, iI_low, l_ushrI, l_shlI, l_shrI, i_shlI, i_shrI, i_ushrI, iI_div, iL_div, Int.toNat_natCast, Int.reduceToNat, iI_ofNat]; omega), if_pos (show gx_ok (iI (j : Int)) 12000 = true from by simp (disch := omega) only [iI_lit, iL_lit, iI_add, iI_sub, iI_mul, iI_neg, iL_add, iL_sub, iL_mul, iL_neg, iI_lt, iI_le, iI_eq, iL_lt, iL_le, iL_eqS, iI_c, iI_ok, iI_l, iL_i, iI_low, l_ushrI, l_shlI, l_shrI, i_shlI, i_shrI, i_ushrI, iI_div, iL_div, Int.toNat_natCast, Int.reduceToNat, iI_ofNat]; omega), iI_c (by omega) (by omega), Int.toNat_natCast, hx]
    rw [show iI (j : Int) + 1 = iI ((j + 1 : Nat) : Int) from by rw [show (1 : Int32) = iI 1 from rfl, iI_add]; rfl]
    refine OUT_bind (OUT_put hM (by omega) hL2 hbl B[j]) (fun u hu h1 h2 => ?_)
    rw [hsx] at hu
    have := show95 hT' hB hL2 bi un le us en ep crn crp ng ln co no ed crd sp rc lc d (j + 1) m u.1 u.2.1 u.2.2 (E ++ [B[j]]) (by omega) (by omega) hu (by simp; omega) (by simp; omega) (by omega)
    have e : E ++ B.drop j = E ++ [B[j]] ++ B.drop (j + 1) := by
      rw [List.append_assoc, List.singleton_append, List.getElem_cons_drop]
    rw [e]
    exact this
set_option maxRecDepth 10000 in
def sgE (s : Nat) (u : Int) : List Int32 := if biS s u = 0 then [] else [iI 45]
set_option maxRecDepth 10000 in
theorem show72 {u : Int} (h0 : 0 ≤ u) (h1 : u < 18446744073709551616) {le a : Int} (hle : le = 101 ∨ le = 102 ∨ le = 103) (a0 : 0 ≤ a) (a1 : a ≤ 9999) (hlen : (realT 0 u le a ((0 : Int32) ≠ 0) ((0 : Int32) ≠ 0)).length ≤ 11990) {c : Nat → Int32} {bl : Nat} (hb0 : 0 < bl) (hbl : bl ≤ 400000) (un us en ep crn crp bo ng ln co no : Int32) (ed crd sp bc rc : Nat → Int32) (lc : Nat → Int64) :
    OUT π23 (f_Md_show_72 (iI a) (iL u) (iI le) (iI (szD 0)) un (iI (szL 0)) us en ed lc ep crn crp crd bo sp ng 0 ln bc co no rc c bl) bl 12000 (fun r => SH r (sgE 0 u ++ realT 0 u le a ((0 : Int32) ≠ 0) ((0 : Int32) ≠ 0)) co) := by
  have hfu := fu_pos
  obtain ⟨us', en', ed', lc', ep', crn', crp', crd', bl', bc', e, hT⟩ := mreal_spec (s := 0) (by omega) h0 h1 hle a0 a1 0 0 (fun _ => rfl) un us en ep crn crp bo ng no ed crd sp bc lc
  unfold f_Md_show_72 f_Md_show_92
  rw [e, Option.bind_some]
  dsimp only
  generalize realT 0 u le a ((0 : Int32) ≠ 0) ((0 : Int32) ≠ 0) = B at *
  unfold sgE
  rcases biS_01 0 u with q | q
  · rw [q, if_pos (show iI 0 = 0 from rfl), if_pos rfl, List.nil_append]
    have := show95 hT (by omega) (L := 12000) (by omega) (iI (szD 0)) (iI (if biN 0 u = 1 ∨ biI 0 u = 1 then 1 else 0)) (iI (szL 0)) us' en' ep' crn' crp' (iI 0) ln co (iI (biN 0 u)) ed' crd' sp rc lc' B.length 0 gx_fu 0 c bl [] (by omega) (by omega) (MB_nil hb0) (by simp; omega) (by simp; omega) hbl
    rw [List.drop_zero, List.nil_append] at this
    exact this
  · rw [q, if_neg (show ¬ iI 1 = 0 from by decide), if_neg (show ¬ (1 : Int) = 0 from by decide)]
    refine OUT_bind (OUT_put (MB_nil (c := c) hb0) (L := 12000) (by simp) (by omega) hbl 45) (fun v hv g1 g2 => ?_)
    have hv' : MB v.1 v.2.1 v.2.2 [iI 45] := hv
    have := show95 hT (by omega) (L := 12000) (by omega) (iI (szD 0)) (iI (if biN 0 u = 1 ∨ biI 0 u = 1 then 1 else 0)) (iI (szL 0)) us' en' ep' crn' crp' (iI 1) ln co (iI (biN 0 u)) ed' crd' sp rc lc' B.length 0 gx_fu v.1 v.2.1 v.2.2 [iI 45] (by omega) (by omega) hv' (by simp; omega) (by simp; omega) (by omega)
    rw [List.drop_zero] at this
    exact this
-- XL
set_option maxRecDepth 10000 in
def upB (x : Int32) : Int32 := if 97 ≤ ub x ∧ ub x ≤ 122 then iI (ub x - 32) else x
set_option maxRecDepth 10000 in
def upE (up : Prop) [Decidable up] (E : List Int32) : List Int32 := if up then E.map upB else E
set_option maxRecDepth 10000 in
theorem upE_len (up : Prop) [Decidable up] (E : List Int32) : (upE up E).length = E.length := by unfold upE; split <;> simp
set_option maxRecDepth 10000 in
theorem sb_ub {x : Int32} (h : sb x = x) : sb (iI (ub x)) = x := by
  obtain ⟨a, a0, a1, rfl⟩ := sb_of h
  unfold ub
  rw [u3_m, sb_i]
  congr 1
  simp only [Int.bmod_def]
  omega
set_option maxRecDepth 10000 in
theorem cased23 {n n2 : Nat} (hn : n < 1000000) (hn2 : n2 < 1000000) {len2 over2 : Int32} {c2 : Nat → Int32} {E2 : List Int32} (h2 : BY n2 len2 over2 c2 E2) (hE2 : E2.length ≤ n2) (up : Int32) :
    ∀ (d i m : Nat) (len over : Int32) (c : Nat → Int32) (E : List Int32), i + d = E2.length → d < m → BY n len over c E → ∃ len' over' c', f_Pr_addCased_23 m (iI i) n2 n up len2 c2 len over c = some (len', over', c') ∧ BY n len' over' c' (E ++ (E2.drop i).map upB)
  | 0, i, m + 1, len, over, c, E, hi, hm, h => by
    have hlen : len2 = iI E2.length := by rw [h2.1]; congr 2; omega
    rw [f_Pr_addCased_23, if_pos (show len2 ≤ iI (i : Int) from by rw [hlen]; simp (disch := omega) only [iI_lit, iL_lit, iI_add, iI_sub, iI_mul, iI_neg, iL_add, iL_sub, iL_mul, iL_neg, iI_lt, iI_le, iI_eq, iL_lt, iL_le, iL_eqS, iI_c, iI_ok, iI_l, iL_i, iI_low, l_ushrI, l_shlI, l_shrI, i_shlI, i_shrI, i_ushrI, iI_div, iL_div, Int.toNat_natCast, Int.reduceToNat, iI_ofNat]; omega)]
    rw [List.drop_of_length_le (by omega), List.map_nil, List.append_nil]
    exact ⟨len, over, c, rfl, h⟩
  | d + 1, i, m + 1, len, over, c, E, hi, hm, h => by
    have hlen : len2 = iI E2.length := by rw [h2.1]; congr 2; omega
    have hil : i < E2.length := by omega
    have hub := ubAt_b E2 i
    have hsx : sb E2[i] = E2[i] := h2.2.2.2 _ (List.getElem_mem hil)
    rw [f_Pr_addCased_23, if_neg (show ¬ len2 ≤ iI (i : Int) from by rw [hlen]; simp (disch := omega) only [iI_lit, iL_lit, iI_add, iI_sub, iI_mul, iI_neg, iL_add, iL_sub, iL_mul, iL_neg, iI_lt, iI_le, iI_eq, iL_lt, iL_le, iL_eqS, iI_c, iI_ok, iI_l, iL_i, iI_low, l_ushrI, l_shlI, l_shrI, i_shlI, i_shrI, i_ushrI, iI_div, iL_div, Int.toNat_natCast, Int.reduceToNat, iI_ofNat]; omega), at_in (by omega) h2 hE2 hil, Option.bind_some]
    unfold f_Pr_addCased_63 f_Pr_addCased_64
    have ej : iI (i : Int) + 1 = iI ((i + 1 : Nat) : Int) := by rw [show (1 : Int32) = iI 1 from rfl, iI_add]; rfl
    rw [ej]
    have key : ∀ y : Int32, sb y = upB E2[i] → ∃ len' over' c', ((f_By_add y n len over c).bind fun u64 => f_Pr_addCased_23 m (iI ((i + 1 : Nat) : Int)) n2 n up len2 c2 u64.1 u64.2.1 u64.2.2) = some (len', over', c') ∧ BY n len' over' c' (E ++ (E2.drop i).map upB) := by
      intro y hy
      obtain ⟨l1, o1, c1, e1, b1⟩ := add_spec (by omega) h y
      rw [e1, Option.bind_some]
      obtain ⟨l2, o2, c3, e2, b2⟩ := cased23 hn hn2 h2 hE2 up d (i + 1) m l1 o1 c1 _ (by omega) (by omega) b1
      refine ⟨l2, o2, c3, e2, ?_⟩
      rw [← List.getElem_cons_drop hil, List.map_cons, ← hy, show sb y :: (E2.drop (i + 1)).map upB = [sb y] ++ (E2.drop (i + 1)).map upB from rfl, ← List.append_assoc]
      exact b2
    have eub : ubAt E2 i = ub E2[i] := ubAt_get hil
    rw [eub] at hub ⊢
    by_cases q1 : ub E2[i] < 97
    · rw [if_pos (show iI (ub E2[i]) < 97 from by simp (disch := omega) only [iI_lit, iL_lit, iI_add, iI_sub, iI_mul, iI_neg, iL_add, iL_sub, iL_mul, iL_neg, iI_lt, iI_le, iI_eq, iL_lt, iL_le, iL_eqS, iI_c, iI_ok, iI_l, iL_i, iI_low, l_ushrI, l_shlI, l_shrI, i_shlI, i_shrI, i_ushrI, iI_div, iL_div, Int.toNat_natCast, Int.reduceToNat, iI_ofNat]; omega)]
      exact key _ (by unfold upB; rw [if_neg (by omega)]; exact sb_ub hsx)
    · rw [if_neg (show ¬ iI (ub E2[i]) < 97 from by simp (disch := omega) only [iI_lit, iL_lit, iI_add, iI_sub, iI_mul, iI_neg, iL_add, iL_sub, iL_mul, iL_neg, iI_lt, iI_le, iI_eq, iL_lt, iL_le, iL_eqS, iI_c, iI_ok, iI_l, iL_i, iI_low, l_ushrI, l_shlI, l_shrI, i_shlI, i_shrI, i_ushrI, iI_div, iL_div, Int.toNat_natCast, Int.reduceToNat, iI_ofNat]; omega)]
      by_cases q2 : 122 < ub E2[i]
      · rw [if_pos (show (122 : Int32) < iI (ub E2[i]) from by simp (disch := omega) only [iI_lit, iL_lit, iI_add, iI_sub, iI_mul, iI_neg, iL_add, iL_sub, iL_mul, iL_neg, iI_lt, iI_le, iI_eq, iL_lt, iL_le, iL_eqS, iI_c, iI_ok, iI_l, iL_i, iI_low, l_ushrI, l_shlI, l_shrI, i_shlI, i_shrI, i_ushrI, iI_div, iL_div, Int.toNat_natCast, Int.reduceToNat, iI_ofNat]; omega)]
        exact key _ (by unfold upB; rw [if_neg (by omega)]; exact sb_ub hsx)
      · rw [if_neg (show ¬ (122 : Int32) < iI (ub E2[i]) from by simp (disch := omega) only [iI_lit, iL_lit, iI_add, iI_sub, iI_mul, iI_neg, iL_add, iL_sub, iL_mul, iL_neg, iI_lt, iI_le, iI_eq, iL_lt, iL_le, iL_eqS, iI_c, iI_ok, iI_l, iL_i, iI_low, l_ushrI, l_shlI, l_shrI, i_shlI, i_shrI, i_ushrI, iI_div, iL_div, Int.toNat_natCast, Int.reduceToNat, iI_ofNat]; omega), show (97 : Int32) = iI 97 from rfl, show (65 : Int32) = iI 65 from rfl, iI_sub, iI_add]
        exact key _ (by unfold upB; rw [if_pos (by omega), show ub E2[i] - 97 + 65 = ub E2[i] - 32 by omega]; exact sb_small (by omega) (by omega))
set_option maxRecDepth 10000 in
theorem cased_spec {n n2 : Nat} (hn : n < 1000000) (hn2 : n2 < 90000) {len2 over2 : Int32} {c2 : Nat → Int32} {E2 : List Int32} (h2 : BY n2 len2 over2 c2 E2) (hE2 : E2.length ≤ n2) (up : Int32) {len over : Int32} {c : Nat → Int32} {E : List Int32} (h : BY n len over c E) :
    ∃ len' over' c', f_Pr_addCased n2 n up len2 c2 len over c = some (len', over', c') ∧ BY n len' over' c' (E ++ upE (up ≠ 0) E2) := by
  have hlen : len2 = iI E2.length := by rw [h2.1]; congr 2; omega
  unfold f_Pr_addCased upE
  by_cases q : up = 0
  · rw [if_pos q, if_neg (fun x => x q)]
    obtain ⟨l1, o1, c1, e1, b1⟩ := apart_spec (f := 0) (t := E2.length) hn (by omega) h h2 (by omega) (by omega) (by omega) (by omega)
    have e1' : f_By_addPart (0 : Int32) len2 n n2 len2 len c2 over c = some (l1, o1, c1) := by
      have : f_By_addPart (iI 0) (iI E2.length) n n2 len2 len c2 over c = some (l1, o1, c1) := e1
      rw [← hlen] at this
      exact this
    rw [e1', Option.bind_some]
    refine ⟨l1, o1, c1, rfl, ?_⟩
    rw [List.take_of_length_le hE2, Int.toNat_natCast, List.take_length, show (0 : Int).toNat = 0 from rfl, List.drop_zero] at b1
    exact b1
  · rw [if_neg q, if_pos q]
    obtain ⟨l1, o1, c1, e1, b1⟩ := cased23 hn (by omega) h2 hE2 up E2.length 0 gx_fu len over c E (by omega) (by have := fu_pos; omega) h
    exact ⟨l1, o1, c1, e1, b1⟩
set_option maxRecDepth 10000 in
def spE (k : Int) (x : Int32) : List Int32 := List.replicate k.toNat x
set_option maxRecDepth 10000 in
def layT (w : Int) (H B : List Int32) (cl up zr lf : Prop) [Decidable cl] [Decidable up] [Decidable zr] [Decidable lf] : List Int32 :=
  (if ¬ lf ∧ ¬ zr then spE (w - H.length - B.length - (if cl then 1 else 0)) (iI 32) else []) ++ (upE up H ++ ((if zr then spE (w - H.length - B.length - (if cl then 1 else 0)) (iI 48) else []) ++ (upE up B ++ ((if cl then [iI 41] else []) ++ (if lf then spE (w - H.length - B.length - (if cl then 1 else 0)) (iI 32) else [])))))
set_option maxRecDepth 10000 in
theorem lay_spec {n nh nb : Nat} (hn : n < 1000000) (hnh : nh < 90000) (hnb : nb < 90000) {w : Int} (hw0 : -1 ≤ w) (hw1 : w ≤ 9999) {hl ho bl bo : Int32} {hc bc : Nat → Int32} {H B : List Int32} (hH : BY nh hl ho hc H) (hHl : H.length ≤ nh) (hB : BY nb bl bo bc B) (hBl : B.length ≤ nb) (cl fl up zr : Int32) {len over : Int32} {c : Nat → Int32} {E : List Int32} (h : BY n len over c E) :
    ∃ len' over' c', f_Pr_layOut nh n nb (iI w) hl bl cl fl up hc len over zr bc c = some (len', over', c') ∧ BY n len' over' c' (E ++ layT w H B (cl ≠ 0) (up ≠ 0) (zr ≠ 0) (fl &&& 1 ≠ 0)) := by
  have hhl : hl = iI H.length := by rw [hH.1]; congr 2; omega
  have hbl : bl = iI B.length := by rw [hB.1]; congr 2; omega
  have hH' := hH
  have hB' := hB
  generalize hF : w - (H.length : Int) - (B.length : Int) - (if cl ≠ 0 then 1 else 0) = F
  have hFb : -1000000 ≤ F ∧ F ≤ 9999 := by rw [← hF]; split <;> omega
  have e0 : f_Pr_layOut nh n nb (iI w) hl bl cl fl up hc len over zr bc c = (if fl &&& 1 = 0 then (if zr = 0 then ((f_By_addTimes (32 : Int32) (iI F) n len over c).bind fun u58 => f_Pr_layOut_61 (iI F) 0 nh n nb (iI w) hl bl cl fl up hc u58.1 u58.2.1 zr bc u58.2.2) else (f_Pr_layOut_61 (iI F) 0 nh n nb (iI w) hl bl cl fl up hc len over zr bc c)) else (f_Pr_layOut_61 (iI F) 1 nh n nb (iI w) hl bl cl fl up hc len over zr bc c)) := by
    unfold f_Pr_layOut f_Pr_layOut_32
    rw [has_spec]
    simp only [Option.bind_some]
    by_cases q : cl = 0
    · rw [if_neg (fun x => x q), Int.sub_zero] at hF
      have eF : iI w - hl - bl - (0 : Int32) = iI F := by rw [hhl, hbl, show (0 : Int32) = iI 0 from rfl, iI_sub, iI_sub, iI_sub, Int.sub_zero, hF]
      rw [if_pos q, eF]
      by_cases p : fl &&& 1 = 0
      · rw [if_pos p, if_pos rfl, if_pos p]
      · rw [if_neg p, if_neg (show ¬ (1 : Int32) = 0 from by decide), if_neg p]
    · rw [if_pos q] at hF
      have eF : iI w - hl - bl - (1 : Int32) = iI F := by rw [hhl, hbl, show (1 : Int32) = iI 1 from rfl, iI_sub, iI_sub, iI_sub, hF]
      rw [if_neg q, eF]
      by_cases p : fl &&& 1 = 0
      · rw [if_pos p, if_pos rfl, if_pos p]
      · rw [if_neg p, if_neg (show ¬ (1 : Int32) = 0 from by decide), if_neg p]
  rw [e0]
  -- from the head on
  have tail : ∀ (v2 : Int32) (hv2 : (v2 = 0) = (fl &&& 1 = 0)) (len over : Int32) (c : Nat → Int32) (E : List Int32), BY n len over c E → ∃ len' over' c', f_Pr_layOut_61 (iI F) v2 nh n nb (iI w) hl bl cl fl up hc len over zr bc c = some (len', over', c') ∧ BY n len' over' c' (E ++ (upE (up ≠ 0) H ++ ((if zr ≠ 0 then spE F (iI 48) else []) ++ (upE (up ≠ 0) B ++ ((if cl ≠ 0 then [iI 41] else []) ++ (if fl &&& 1 ≠ 0 then spE F (iI 32) else [])))))) := by
    intro v2 hv2 len over c E h
    obtain ⟨l1, o1, c1, e1, b1⟩ := cased_spec hn hnh hH' hHl up h
    unfold f_Pr_layOut_61
    rw [e1, Option.bind_some]
    dsimp only
    have end110 : ∀ (len over : Int32) (c : Nat → Int32) (E : List Int32), BY n len over c E → ∃ len' over' c', f_Pr_layOut_110 (iI F) v2 nh n nb (iI w) hl bl cl fl up hc len over zr bc c = some (len', over', c') ∧ BY n len' over' c' (E ++ (if fl &&& 1 ≠ 0 then spE F (iI 32) else [])) := by
      intro len over c E h
      unfold f_Pr_layOut_110
      by_cases q : v2 = 0
      · have q' : fl &&& 1 = 0 := by rw [← hv2]; exact q
        rw [if_pos q, if_neg (fun x => x q'), List.append_nil]
        exact ⟨len, over, c, rfl, h⟩
      · have q' : fl &&& 1 ≠ 0 := fun x => q (by rw [hv2]; exact x)
        rw [if_neg q, if_pos q']
        obtain ⟨l2, o2, c2, e2, b2⟩ := atimes_spec (n := n) (by omega) h (32 : Int32) (k := F) (by omega) (by omega)
        rw [e2, Option.bind_some]
        exact ⟨l2, o2, c2, rfl, b2⟩
    have end86 : ∀ (len over : Int32) (c : Nat → Int32) (E : List Int32), BY n len over c E → ∃ len' over' c', f_Pr_layOut_86 (iI F) v2 nh n nb (iI w) hl bl cl fl up hc len over zr bc c = some (len', over', c') ∧ BY n len' over' c' (E ++ (upE (up ≠ 0) B ++ ((if cl ≠ 0 then [iI 41] else []) ++ (if fl &&& 1 ≠ 0 then spE F (iI 32) else [])))) := by
      intro len over c E h
      obtain ⟨l3, o3, c3, e3, b3⟩ := cased_spec hn hnb hB' hBl up h
      unfold f_Pr_layOut_86
      rw [e3, Option.bind_some]
      dsimp only
      by_cases q : cl = 0
      · rw [if_pos q, if_neg (fun x => x q), List.nil_append, ← List.append_assoc]
        exact end110 _ _ _ _ b3
      · rw [if_neg q, if_pos q]
        obtain ⟨l4, o4, c4, e4, b4⟩ := add_spec (by omega) b3 (41 : Int32)
        rw [e4, Option.bind_some]
        obtain ⟨l5, o5, c5, e5, b5⟩ := end110 _ _ _ _ b4
        refine ⟨l5, o5, c5, e5, ?_⟩
        rw [← List.append_assoc, ← List.append_assoc]
        exact b5
    by_cases q : zr = 0
    · rw [if_pos q, if_neg (fun x => x q), List.nil_append, ← List.append_assoc]
      exact end86 _ _ _ _ b1
    · rw [if_neg q, if_pos q]
      obtain ⟨l2, o2, c2, e2, b2⟩ := atimes_spec (n := n) (by omega) b1 (48 : Int32) (k := F) (by omega) (by omega)
      rw [e2, Option.bind_some]
      obtain ⟨l5, o5, c5, e5, b5⟩ := end86 _ _ _ _ b2
      refine ⟨l5, o5, c5, e5, ?_⟩
      rw [← List.append_assoc, ← List.append_assoc]
      exact b5
  unfold layT
  rw [hF]
  by_cases p : fl &&& 1 = 0
  · rw [if_pos p]
    by_cases q : zr = 0
    · rw [if_pos q, if_pos (show ¬ (fl &&& 1 ≠ 0) ∧ ¬ (zr ≠ 0) from ⟨fun x => x p, fun x => x q⟩)]
      obtain ⟨l2, o2, c2, e2, b2⟩ := atimes_spec (n := n) (by omega) h (32 : Int32) (k := F) (by omega) (by omega)
      rw [e2, Option.bind_some]
      obtain ⟨l5, o5, c5, e5, b5⟩ := tail 0 (by rw [p]) _ _ _ _ b2
      refine ⟨l5, o5, c5, e5, ?_⟩
      rw [← List.append_assoc]
      exact b5
    · rw [if_neg q, if_neg (show ¬ (¬ (fl &&& 1 ≠ 0) ∧ ¬ (zr ≠ 0)) from fun x => x.2 q), List.nil_append]
      exact tail 0 (by rw [p]) _ _ _ _ h
  · rw [if_neg p, if_neg (show ¬ (¬ (fl &&& 1 ≠ 0) ∧ ¬ (zr ≠ 0)) from fun x => x.1 p), List.nil_append]
    exact tail 1 (propext ⟨fun x => absurd x (by decide), fun x => absurd x p⟩) _ _ _ _ h
-- XM
set_option maxRecDepth 10000 in
def signE (ng : Prop) [Decidable ng] (fl : Int32) : List Int32 := if ng then (if fl &&& 64 = 0 then [iI 45] else [iI 40]) else if fl &&& 4 = 0 then (if fl &&& 8 = 0 then [] else [iI 32]) else [iI 43]
set_option maxRecDepth 10000 in
def closE (ng : Prop) [Decidable ng] (fl : Int32) : Int32 := if ng then (if fl &&& 64 = 0 then 0 else 1) else 0
set_option maxRecDepth 10000 in
theorem addSign_spec {n : Nat} (hn : n < 1000000) {len over : Int32} {c : Nat → Int32} {E : List Int32} (h : BY n len over c E) (ng fl : Int32) :
    ∃ len' over' c', f_Pr_addSign ng n fl len 0 over c = some (len', closE (ng ≠ 0) fl, over', c') ∧ BY n len' over' c' (E ++ signE (ng ≠ 0) fl) := by
  unfold f_Pr_addSign f_Pr_addSign_32 signE closE
  rw [has_spec, Option.bind_some, has_spec, Option.bind_some, has_spec, Option.bind_some]
  have add : ∀ x : Int, 0 ≤ x → x < 128 → ∃ len' over' c', f_By_add (iI x) n len over c = some (len', over', c') ∧ BY n len' over' c' (E ++ [iI x]) := by
    intro x x0 x1
    obtain ⟨l1, o1, c1, e1, b1⟩ := add_spec (by omega) h (iI x)
    rw [sb_small (by omega) (by omega)] at b1
    exact ⟨l1, o1, c1, e1, b1⟩
  have n10 : ((1 : Int32) = 0) = False := eq_false (by decide)
  have g0 : (gx_bo 0 = true) = True := eq_true (by decide)
  have g1 : (gx_bo 1 = true) = True := eq_true (by decide)
  have fin : ∀ (x : Int) (cl : Int32), 0 ≤ x → x < 128 → ∃ len' over' c', ((f_By_add (iI x) n len over c).bind fun u32 => some (u32.1, cl, u32.2.1, u32.2.2)) = some (len', cl, over', c') ∧ BY n len' over' c' (E ++ [iI x]) := by
    intro x cl x0 x1
    obtain ⟨l1, o1, c1, e1, b1⟩ := add x x0 x1
    rw [e1, Option.bind_some]
    exact ⟨l1, o1, c1, rfl, b1⟩
  by_cases q : ng = 0
  · simp only [q, ne_eq, not_true_eq_false, ↓reduceIte]
    by_cases q4 : fl &&& 4 = 0
    · simp only [q4, ↓reduceIte]
      by_cases q8 : fl &&& 8 = 0
      · simp only [q8, ↓reduceIte, List.append_nil]
        exact ⟨len, over, c, rfl, h⟩
      · simp only [q8, n10, ↓reduceIte]
        exact fin 32 0 (by omega) (by omega)
    · simp only [q4, n10, ↓reduceIte]
      exact fin 43 0 (by omega) (by omega)
  · simp only [q, ne_eq, not_false_eq_true, ↓reduceIte]
    by_cases q6 : fl &&& 64 = 0
    · simp only [q6, g0, ↓reduceIte]
      exact fin 45 0 (by omega) (by omega)
    · simp only [q6, g1, n10, ↓reduceIte]
      exact fin 40 1 (by omega) (by omega)
set_option maxRecDepth 10000 in
def upV (cv : Int) : Int := if 65 ≤ cv ∧ cv ≤ 90 then 1 else 0
set_option maxRecDepth 10000 in
def leV (cv : Int) : Int := if 65 ≤ cv ∧ cv ≤ 90 then cv + 32 else cv
set_option maxRecDepth 10000 in
theorem start_spec {cv : Int} (h0 : 0 ≤ cv) (h1 : cv < 256) {hl bl : Int32} {kh kb : Nat} (hhl : hl = iI kh) (hkh : kh ≤ 1000000) (hbl : bl = iI kb) (hkb : kb ≤ 1000000) (fl wd pr up fl0 wd0 pr0 le0 zr0 cl0 ho bo : Int32) :
    f_Pr_start (iI cv) fl wd pr up fl0 hl bl wd0 pr0 le0 zr0 cl0 ho bo = some (iI (upV cv), fl, iI 0, iI 0, wd, pr, iI (leV cv), (if fl &&& 16 = 0 then 0 else 1), 0, iI 0, iI 0) := by
  unfold f_Pr_start f_Pr_start_33 f_Pr_start_34 f_Pr_start_56 upV leV
  rw [has_spec, Option.bind_some, keep0 hhl hkh, Option.bind_some, keep0 hbl hkb, Option.bind_some, Option.bind_some]
  have hb : gx_bo (if fl &&& 16 = 0 then (0 : Int32) else 1) = true := by split <;> decide
  rw [if_pos hb, if_pos hb]
  by_cases q1 : cv < 65
  · rw [if_pos (show iI cv < 65 from by simp (disch := omega) only [iI_lit, iL_lit, iI_add, iI_sub, iI_mul, iI_neg, iL_add, iL_sub, iL_mul, iL_neg, iI_lt, iI_le, iI_eq, iL_lt, iL_le, iL_eqS, iI_c, iI_ok, iI_l, iL_i, iI_low, l_ushrI, l_shlI, l_shrI, i_shlI, i_shrI, i_ushrI, iI_div, iL_div, Int.toNat_natCast, Int.reduceToNat, iI_ofNat]; omega), if_pos (show gx_bo 0 = true from by decide), if_pos rfl, if_neg (show ¬ (65 ≤ cv ∧ cv ≤ 90) by omega), if_neg (show ¬ (65 ≤ cv ∧ cv ≤ 90) by omega)]; rfl
  · rw [if_neg (show ¬ iI cv < 65 from by simp (disch := omega) only [iI_lit, iL_lit, iI_add, iI_sub, iI_mul, iI_neg, iL_add, iL_sub, iL_mul, iL_neg, iI_lt, iI_le, iI_eq, iL_lt, iL_le, iL_eqS, iI_c, iI_ok, iI_l, iL_i, iI_low, l_ushrI, l_shlI, l_shrI, i_shlI, i_shrI, i_ushrI, iI_div, iL_div, Int.toNat_natCast, Int.reduceToNat, iI_ofNat]; omega)]
    by_cases q2 : 90 < cv
    · rw [if_pos (show (90 : Int32) < iI cv from by simp (disch := omega) only [iI_lit, iL_lit, iI_add, iI_sub, iI_mul, iI_neg, iL_add, iL_sub, iL_mul, iL_neg, iI_lt, iI_le, iI_eq, iL_lt, iL_le, iL_eqS, iI_c, iI_ok, iI_l, iL_i, iI_low, l_ushrI, l_shlI, l_shrI, i_shlI, i_shrI, i_ushrI, iI_div, iL_div, Int.toNat_natCast, Int.reduceToNat, iI_ofNat]; omega), if_pos (show gx_bo 0 = true from by decide), if_pos rfl, if_neg (show ¬ (65 ≤ cv ∧ cv ≤ 90) by omega), if_neg (show ¬ (65 ≤ cv ∧ cv ≤ 90) by omega)]; rfl
    · rw [if_neg (show ¬ (90 : Int32) < iI cv from by simp (disch := omega) only [iI_lit, iL_lit, iI_add, iI_sub, iI_mul, iI_neg, iL_add, iL_sub, iL_mul, iL_neg, iI_lt, iI_le, iI_eq, iL_lt, iL_le, iL_eqS, iI_c, iI_ok, iI_l, iL_i, iI_low, l_ushrI, l_shlI, l_shrI, i_shlI, i_shrI, i_ushrI, iI_div, iL_div, Int.toNat_natCast, Int.reduceToNat, iI_ofNat]; omega), if_pos (show gx_bo 1 = true from by decide), if_neg (show ¬ (1 : Int32) = 0 from by decide), if_pos (show 65 ≤ cv ∧ cv ≤ 90 by omega), if_pos (show 65 ≤ cv ∧ cv ≤ 90 by omega), show (65 : Int32) = iI 65 from rfl, show (97 : Int32) = iI 97 from rfl, iI_sub, iI_add, show cv - 65 + 97 = cv + 32 by omega, Option.bind_some, if_pos hb, Option.bind_some, Option.bind_some]; rfl
set_option maxRecDepth 10000 in
theorem ffloat_spec {nh nb : Nat} (hnh : nh < 1000000) (hnb : nb < 10000000) {s : Nat} (hs : s < 2) {ki : Int32} (hki : (ki = 5) = (s = 1)) {u : Int} (h0 : 0 ≤ u) (h1 : u < 18446744073709551616) {pr a le : Int} (hpr : -1 ≤ pr) (hpr1 : pr ≤ 9999) (ha : a = if pr = -1 then 6 else pr) (hle : le = 101 ∨ le = 102 ∨ le = 103) (fl : Int32) {hl ho bl bo : Int32} {hc bc : Nat → Int32} {H : List Int32} (hH : BY nh hl ho hc H) (hB : BY nb bl bo bc []) (na ng inf q0 : Int32) (c0 : Int64) (ns sz pt zr : Int32) (nl ch dc : Nat → Int32) (si : Nat) :
    ∃ hl' ho' bl' bo' hc' bc' x1 x2 x3 x4 x5 x6, f_Pr_fillFloating ki (iL u) nh nb na ng fl hl 0 inf (iI le) (iI pr) c0 q0 ns nl ch sz pt dc bl bo si ho hc bc zr = some (iI (biN s u), iI (biS s u), hl', (if biN s u = 1 then 0 else closE (biS s u ≠ 0) fl), iI (biI s u), iL (biC s u), iI (biQ s u), x1, x2, x3, x4, x5, x6, bl', bo', s, ho', hc', bc', (if biN s u = 1 ∨ biI s u = 1 then 0 else zr)) ∧ BY nh hl' ho' hc' (H ++ (if biN s u = 1 then [] else signE (biS s u ≠ 0) fl)) ∧ BY nb bl' bo' bc' (realT s u le a (fl &&& 32 ≠ 0) (fl &&& 2 ≠ 0)) := by
  have e0 : f_Pr_fillFloating ki (iL u) nh nb na ng fl hl 0 inf (iI le) (iI pr) c0 q0 ns nl ch sz pt dc bl bo si ho hc bc zr = f_Pr_fillFloating_18 (iL u) s nh nb na ng fl hl 0 inf (iI le) (iI pr) c0 q0 ns nl ch sz pt dc bl bo si ho hc bc zr := by
    unfold f_Pr_fillFloating
    simp only [hki]
    have : s = 0 ∨ s = 1 := by omega
    rcases this with rfl | rfl
    · rw [if_neg (by decide)]
    · rw [if_pos rfl]
  rw [e0]
  unfold f_Pr_fillFloating_18 realT
  rw [take_spec hs h0 h1, Option.bind_some]
  dsimp only
  by_cases qN : biN s u = 1
  · rw [qN, if_neg (show ¬ iI 1 = 0 from by decide), if_pos rfl, if_pos rfl, if_pos (Or.inl rfl), if_pos rfl, List.append_nil]
    obtain ⟨l1, o1, c1, e1, b1⟩ := astr_spec (o := 14) (by omega) (by decide) hB
    rw [e1, Option.bind_some]
    exact ⟨_, _, _, _, _, _, _, _, _, _, _, _, rfl, hH, b1⟩
  · have hN0 : biN s u = 0 := by rcases biN_01 s u with r | r; exact r; exact absurd r qN
    rw [hN0, if_pos (show iI 0 = 0 from rfl), if_neg (show ¬ (0 : Int) = 1 from by decide), if_neg (show ¬ (0 : Int) = 1 from by decide), if_neg (show ¬ (0 : Int) = 1 from by decide)]
    obtain ⟨l1, o1, c1, e1, b1⟩ := addSign_spec hnh hH (iI (biS s u)) fl
    rw [e1, Option.bind_some]
    dsimp only
    have hsp : (iI (biS s u) ≠ 0) = (biS s u ≠ 0) := by
      rcases biS_01 s u with r | r
      · rw [r]; exact propext ⟨fun x => absurd rfl x, fun x => absurd rfl x⟩
      · rw [r]; exact propext ⟨fun _ => by decide, fun _ => by decide⟩
    simp only [hsp] at b1 e1 ⊢
    by_cases qI : biI s u = 1
    · rw [qI, if_neg (show ¬ iI 1 = 0 from by decide), if_pos rfl, if_pos (Or.inr rfl)]
      obtain ⟨l2, o2, c2, e2, b2⟩ := astr_spec (o := 15) (by omega) (by decide) hB
      rw [e2, Option.bind_some]
      exact ⟨_, _, _, _, _, _, _, _, _, _, _, _, rfl, b1, b2⟩
    · have hI0 : biI s u = 0 := by rcases biI_01 s u with r | r; exact r; exact absurd r qI
      rw [hI0, if_pos (show iI 0 = 0 from rfl), if_neg (show ¬ (0 : Int) = 1 from by decide), if_neg (show ¬ ((0 : Int) = 1 ∨ (0 : Int) = 1) from by decide)]
      obtain ⟨g1, g2, g3, g4⟩ := biCQ hs h0 qN qI
      rw [if_neg (show ¬ iI le = 97 from by simp (disch := omega) only [iI_lit, iL_lit, iI_add, iI_sub, iI_mul, iI_neg, iL_add, iL_sub, iL_mul, iL_neg, iI_lt, iI_le, iI_eq, iL_lt, iL_le, iL_eqS, iI_c, iI_ok, iI_l, iL_i, iI_low, l_ushrI, l_shlI, l_shrI, i_shlI, i_shrI, i_ushrI, iI_div, iL_div, Int.toNat_natCast, Int.reduceToNat, iI_ofNat]; omega)]
      obtain ⟨y1, y2, y3, y4, y5, y6, l2, o2, c2, e2, b2⟩ := fdec_spec hnb g1 (by omega) g3 g4 hpr hpr1 ha hle fl ns sz pt nl ch dc hB
      rw [e2, Option.bind_some]
      exact ⟨_, _, _, _, _, _, _, _, _, _, _, _, rfl, b1, b2⟩
