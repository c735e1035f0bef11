-- M
set_option maxRecDepth 10000 in
def decE (δ : Nat → Nat) (p : Int) (t : Nat) : List Int32 :=
  if p < -2 ∨ 7 < p then digE δ 0 1 ++ ([iI 46] ++ (digE δ 1 (max ((t : Int) - 1) 1).toNat ++ (gl_byt.getD (if p ≤ 0 then 4 else 3) [] ++ numE (p - 1).natAbs 1)))
  else wholeE δ p False ++ ([iI 46] ++ digE δ p (max ((t : Int) - p) 1).toNat)
set_option maxRecDepth 10000 in
theorem wd_spec {dc : Nat → Int32} {t : Nat} {δ : Nat → Nat} (hD : DL 792 (iI t) dc t δ) {p : Int} (hp0 : -1000 ≤ p) (hp1 : p ≤ 1000) {n : Nat} (hn : n < 10000000) {len over : Int32} {c : Nat → Int32} {E : List Int32} (h : BY n len over c E) :
    ∃ len' over' c', f_Sh_writeDecimal n (iI p) (iI t) len over dc c = some (len', over', c') ∧ BY n len' over' c' (E ++ decE δ p t) := by
  have ht := hD.2.1
  have w76 : (p < -2 ∨ 7 < p) → ∃ len' over' c', f_Sh_writeDecimal_76 n (iI p) (iI t) len over dc c = some (len', over', c') ∧ BY n len' over' c' (E ++ decE δ p t) := by
    intro hor
    unfold f_Sh_writeDecimal_76 f_Sh_writeDecimal_132 decE
    rw [if_pos hor]
    simp (disch := omega) only [iI_lit, iL_lit, iI_add, iI_sub, iI_mul, iI_neg, iL_add, iL_sub, iL_mul, iL_neg, iI_lt, iI_le, iI_eq, iL_lt, iL_le, iL_eqS, iI_c, iI_ok, iI_l, iL_i, iI_low, l_ushrI, l_shlI, l_shrI, i_shlI, i_shrI, i_ushrI, iI_div, iL_div, Int.toNat_natCast, Int.reduceToNat, iI_ofNat]
    obtain ⟨l1, o1, c1, e1, h1⟩ := ad_spec hD (f := 0) (many := 1) (by omega) (by omega) (by omega) (by omega) hn h
    rw [e1, Option.bind_some]
    obtain ⟨l2, o2, c2, e2, h2⟩ := add_spec (by omega) h1 (iI 46)
    rw [e2, Option.bind_some, max_spec (by omega) (by omega) (by omega) (by omega), Option.bind_some]
    obtain ⟨l3, o3, c3, e3, h3⟩ := ad_spec hD (f := 1) (many := max ((t : Int) - 1) 1) (by omega) (by omega) (by omega) (by omega) hn h2
    rw [e3, Option.bind_some]
    dsimp only
    rw [abs_spec (by omega) (by omega)]
    simp only [Option.bind_some]
    have hnum : ((p - 1).natAbs : Int) < 10000 := by omega
    by_cases hp : p ≤ 0
    · rw [if_pos hp, if_pos hp]
      obtain ⟨l4, o4, c4, e4, h4⟩ := astr_spec (by omega) (o := 4) (by omega) h3
      rw [e4, Option.bind_some]
      obtain ⟨l5, o5, c5, e5, h5⟩ := an_spec (by omega) (v := ((p - 1).natAbs : Int)) (w := 1) (by omega) hnum (by omega) (by omega) h4
      rw [e5, Option.bind_some]
      refine ⟨_, _, _, rfl, ?_⟩
      rw [sb_small (by omega) (by omega)] at h5
      simp only [List.append_assoc] at h5
      exact h5
    · rw [if_neg hp, if_neg hp]
      obtain ⟨l4, o4, c4, e4, h4⟩ := astr_spec (by omega) (o := 3) (by omega) h3
      rw [e4, Option.bind_some]
      obtain ⟨l5, o5, c5, e5, h5⟩ := an_spec (by omega) (v := ((p - 1).natAbs : Int)) (w := 1) (by omega) hnum (by omega) (by omega) h4
      rw [e5, Option.bind_some]
      refine ⟨_, _, _, rfl, ?_⟩
      rw [sb_small (by omega) (by omega)] at h5
      simp only [List.append_assoc] at h5
      exact h5
  unfold f_Sh_writeDecimal
  rw [show (-2 : Int32) = iI (-2) from rfl]
  simp (disch := omega) only [iI_lit, iL_lit, iI_add, iI_sub, iI_mul, iI_neg, iL_add, iL_sub, iL_mul, iL_neg, iI_lt, iI_le, iI_eq, iL_lt, iL_le, iL_eqS, iI_c, iI_ok, iI_l, iL_i, iI_low, l_ushrI, l_shlI, l_shrI, i_shlI, i_shrI, i_ushrI, iI_div, iL_div, Int.toNat_natCast, Int.reduceToNat, iI_ofNat]
  by_cases h1 : p < -2
  · rw [if_pos h1]; exact w76 (Or.inl h1)
  · rw [if_neg h1]
    by_cases h2 : 7 < p
    · rw [if_pos h2]; exact w76 (Or.inr h2)
    · rw [if_neg h2]
      unfold decE
      rw [if_neg (by omega)]
      obtain ⟨l1, o1, c1, e1, h1⟩ := aw_spec hD (p := p) (by omega) (by omega) (iI 0) (by omega) h
      rw [e1, Option.bind_some]
      obtain ⟨l2, o2, c2, e2, h2⟩ := add_spec (by omega) h1 (iI 46)
      rw [e2, Option.bind_some, max_spec (by omega) (by omega) (by omega) (by omega), Option.bind_some]
      obtain ⟨l3, o3, c3, e3, h3⟩ := ad_spec hD (f := p) (many := max ((t : Int) - p) 1) (by omega) (by omega) (by omega) (by omega) hn h2
      rw [e3, Option.bind_some]
      refine ⟨_, _, _, rfl, ?_⟩
      rw [sb_small (by omega) (by omega)] at h3
      have ew : wholeE δ p (iI 0 ≠ 0) = wholeE δ p False := by
        unfold wholeE wholeAt
        simp [show iI 0 = 0 from rfl]
      rw [ew] at h3
      simp only [List.append_assoc] at h3
      exact h3
set_option maxRecDepth 10000 in
def isShort (c q w ev Df P : Int) : Prop := ∃ (p K T : Int) (N : Nat), suRel q p K T ∧ 0 < K ∧ 4 * c * K < T ∧ T ≤ 10 * (4 * c * K) ∧ 2 ≤ N ∧ N ≤ 18 ∧ (lowR ev (4 * c * K) (w * K) T N ∨ uppR ev (4 * c * K) (2 * K) T N) ∧ (∀ k, 2 ≤ k → k < N → ¬ (lowR ev (4 * c * K) (w * K) T k ∨ uppR ev (4 * c * K) (2 * K) T k)) ∧ Df = finD ev (4 * c * K) (2 * K) (w * K) T N ∧ P = (nd Df.natAbs : Int) + (p - N) ∧ -330 ≤ p ∧ p ≤ 330
set_option maxRecDepth 10000 in
theorem least_in (f : Nat → Prop) (hd : ∀ n, Decidable (f n)) : ∀ d a, f (a + d) → ∃ N, a ≤ N ∧ N ≤ a + d ∧ f N ∧ ∀ k, a ≤ k → k < N → ¬ f k
  | 0, a, h => ⟨a, by omega, by omega, h, fun k h1 h2 => by omega⟩
  | d + 1, a, h => by
    by_cases q : f a
    · exact ⟨a, by omega, by omega, q, fun k h1 h2 => by omega⟩
    · obtain ⟨N, h1, h2, h3, h4⟩ := least_in f hd d (a + 1) (by rw [show a + 1 + d = a + (d + 1) by omega]; exact h)
      refine ⟨N, by omega, by omega, h3, fun k h5 h6 => ?_⟩
      by_cases e : k = a
      · subst e; exact q
      · exact h4 k (by omega) h6
set_option maxRecDepth 10000 in
theorem found18 {c K T w ev : Int} (hK : 0 < K) (hT : 0 < T) (hc : c < 9007199254740992) (hw : 1 ≤ w) (hT2 : T ≤ 10 * (4 * c * K)) : lowR ev (4 * c * K) (w * K) T 18 ∨ uppR ev (4 * c * K) (2 * K) T 18 := by
  unfold lowR uppR
  generalize 4 * c * K * 10 ^ 18 % T = r
  have h18 : (10 : Int) ^ 18 = 1000000000000000000 := rfl
  rw [h18]
  by_cases h1 : r < w * K * 1000000000000000000
  · exact Or.inl (Or.inl h1)
  · refine Or.inr (Or.inl ?_)
    have h2 : 1 * K ≤ w * K := Int.mul_le_mul_of_nonneg_right hw (by omega)
    have h3 : c * K ≤ 9007199254740991 * K := Int.mul_le_mul_of_nonneg_right (by omega) (by omega)
    have e : 4 * c * K = 4 * (c * K) := by grind
    rw [e] at hT2
    omega
set_option maxRecDepth 10000 in
theorem fin_pos {ev V U W T : Int} {N : Nat} (hT : 0 < T) (hV : 0 < V) (hVT : T ≤ 10 * V) (hN : 1 ≤ N) : 0 < V * 10 ^ N / T := by
  apply Int.lt_of_lt_of_le (show (0 : Int) < 1 by decide)
  rw [Int.le_ediv_iff_mul_le hT]
  have := Int.mul_le_mul_of_nonneg_left (p10I_mono hN) (show (0 : Int) ≤ V by omega)
  have e : (10 : Int) ^ 1 = 10 := rfl
  rw [e] at this
  omega
set_option maxRecDepth 10000 in
def isStrip (δ : Nat → Nat) (t : Nat) : Prop := (∀ i, t ≤ i → δ i = 0) ∧ (0 < t → δ (t - 1) ≠ 0)
set_option maxRecDepth 10000 in
theorem sh_spec {c q : Int} {s : Nat} (hs : s < 2) (hc0 : 0 < c) (hc1 : c < 9007199254740992) (hq0 : -1074 ≤ q) (hq1 : q ≤ 971) {ev : Int} (he : ev = 0 ∨ ev = 1) {n : Nat} (hn : n < 10000000) {len over : Int32} {cc : Nat → Int32} {E : List Int32} (h : BY n len over cc E) (a0 a1 a2 : Int32)
    (op vs us ws ts ds dp rs : Int32) (vc uc wc tc dc rc : Nat → Int32) :
    ∃ x, ((f_Sh_setUp (iI q) (iL c) op vs vc us uc s ws wc ts tc).bind fun u63 => f_Sh_write_83 (iI ev) n a0 a1 a2 (iL c) (iI q) u63.1 u63.2.1 u63.2.2.1 u63.2.2.2.1 u63.2.2.2.2.1 s u63.2.2.2.2.2.1 u63.2.2.2.2.2.2.1 u63.2.2.2.2.2.2.2.1 u63.2.2.2.2.2.2.2.2 ds dp dc rs rc len over cc) = some x ∧
      ∃ (Df P : Int) (t : Nat), isShort c q (if c = 2 ^ (szD s - 1) ∧ szL s < q then 1 else 2) ev Df P ∧ isStrip (digF Df.natAbs) t ∧ BY n x.2.2.2.2.2.2.2.2.2.2.2.2.2.2.1 x.2.2.2.2.2.2.2.2.2.2.2.2.2.2.2.1 x.2.2.2.2.2.2.2.2.2.2.2.2.2.2.2.2 (E ++ decE (digF Df.natAbs) P t) := by
  obtain ⟨p, K, T, ⟨t, vs', vc', us', uc', ws', wc', ts', tc', e, htop, bV, bU, bW, bT⟩, hrel, hK0, hVT, hT10, hp0, hp1, hKb⟩ := setUp_spec hs hc0 hc1 hq0 hq1 op vs us ws ts vc uc wc tc
  rw [e, Option.bind_some]
  dsimp only
  generalize hw : (if c = 2 ^ (szD s - 1) ∧ szL s < q then (1 : Int) else 2) = w at *
  have hw12 : w = 1 ∨ w = 2 := by rw [← hw]; split <;> simp
  have hcK0 : 0 < 4 * c * K := Int.mul_pos (by omega) hK0
  have hT0 : 0 < T := by omega
  obtain ⟨N, hN1, hN2, hN3, hN4⟩ := least_in (fun k => lowR ev (4 * c * K) (w * K) T k ∨ uppR ev (4 * c * K) (2 * K) T k) (fun _ => inferInstance) 16 2 (found18 hK0 hT0 hc1 (by omega) hT10)
  have hb60 : (2 : Int) ^ 2500 * 2000000000000000000 < 2 ^ 3072 := by decide +kernel
  have h18 : (10 : Int) ^ 18 = 1000000000000000000 := rfl
  have hwK : w * K ≤ 2 * K := Int.mul_le_mul_of_nonneg_right (by omega) (by omega)
  have hwK0 : 0 ≤ w * K := Int.mul_nonneg (by omega) (by omega)
  obtain ⟨v1, vc1, u1, uc1, w1, wc1, t1, dc1, r1, rc1, e1, hD, hst⟩ := find_spec he bT htop hcK0 hVT (by omega) hwK0 (by omega) (by omega) (p := p) (by omega) (by omega) (N := N) (by omega) hN1 hN3 hN4 (fin_pos (ev := ev) (U := 0) (W := 0) hT0 hcK0 hT10 (by omega)) vs' us' ws' rs ds dp vc' uc' wc' rc dc bV bU bW
  unfold f_Sh_write_83
  rw [e1, Option.bind_some]
  dsimp only
  obtain ⟨Df, hDf⟩ : ∃ Df : Int, Df = finD ev (4 * c * K) (2 * K) (w * K) T N := ⟨_, rfl⟩
  rw [← hDf] at hD hst ⊢
  have hDb : 0 < Df ∧ Df < 10 ^ 19 := by
    have h1 := sDb hT0 hVT N
    have h2 := fin_pos (ev := ev) (U := 0) (W := 0) hT0 hcK0 hT10 (show 1 ≤ N by omega)
    have h3 := p10I_mono (show N ≤ 18 by omega)
    have h19 : (10 : Int) ^ 19 = 10000000000000000000 := rfl
    rw [hDf]; unfold finD
    constructor
    · split <;> omega
    · split <;> omega
  have hnd : nd Df.natAbs ≤ 19 := nd_le_of (by have h19 : (10 : Int) ^ 19 = 10000000000000000000 := rfl; show Df.natAbs < 10000000000000000000; omega)
  obtain ⟨l2, o2, c2, e2, h2⟩ := wd_spec hD (p := (nd Df.natAbs : Int) + (p - N)) (by omega) (by omega) hn h
  rw [e2, Option.bind_some]
  refine ⟨_, rfl, Df, (nd Df.natAbs : Int) + (p - N), t1, ⟨p, K, T, N, hrel, hK0, hVT, hT10, hN1, by omega, hN3, hN4, hDf, rfl, hp0, hp1⟩, ⟨hD.2.2.2.1, hst⟩, h2⟩
set_option maxRecDepth 10000 in
def litL (o : Nat) : List Int32 := gl_byt.getD o []
set_option maxRecDepth 10000 in
def shW (s : Nat) (u : Int) (F : List Int32) : Prop :=
  if biN s u = 1 then F = litL 0 else ∃ G, F = (if biS s u = 1 then [iI 45] else []) ++ G ∧
    (if biI s u = 1 then G = litL 1 else if biC s u = 0 then G = litL 2 else
      ∃ (Df P : Int) (t : Nat), isShort (biC s u) (biQ s u) (if biC s u = 2 ^ (szD s - 1) ∧ szL s < biQ s u then 1 else 2) (if biC s u % 2 = 0 then 1 else 0) Df P ∧ isStrip (digF Df.natAbs) t ∧ G = decE (digF Df.natAbs) P t)
set_option maxRecDepth 10000 in
theorem biC_b {s : Nat} (hs : s < 2) (u : Int) : 0 ≤ biC s u ∧ biC s u < 9007199254740992 := by
  have hF0 : 0 ≤ biF s u := Int.emod_nonneg _ (by have := p2_pos (szD s - 1); omega)
  have hF1 : biF s u < 2 ^ (szD s - 1) := Int.emod_lt_of_pos _ (p2_pos _)
  have hk : (2 : Int) ^ (szD s - 1) ≤ 4503599627370496 := by
    rcases sz_cases hs with h | h
    · rw [h.2.1]; decide
    · rw [h.2.1]; decide
  unfold biC
  split <;> omega
set_option maxRecDepth 10000 in
theorem biQ_b {s : Nat} (hs : s < 2) (u : Int) (h : ¬ biX s u = 2 ^ szK s - 1) : -1074 ≤ biQ s u ∧ biQ s u ≤ 971 := by
  have hX0 : 0 ≤ biX s u := Int.emod_nonneg _ (by have := p2_pos (szK s); omega)
  have hX1 : biX s u < 2 ^ szK s := Int.emod_lt_of_pos _ (p2_pos _)
  unfold biQ
  rcases sz_cases hs with h' | h'
  · obtain ⟨_, _, h2, _, _, h3⟩ := h'
    rw [h3] at h hX1
    rw [h2]
    have : (2 : Int) ^ 11 = 2048 := rfl
    omega
  · obtain ⟨_, _, h2, _, _, h3⟩ := h'
    rw [h3] at h hX1
    rw [h2]
    have : (2 : Int) ^ 8 = 256 := rfl
    omega
set_option maxRecDepth 10000 in
theorem write_spec {s : Nat} (hs : s < 2) {u : Int} (hu0 : 0 ≤ u) (hu1 : u < 18446744073709551616) {n : Nat} (hn : n < 10000000) {len over : Int32} {cc : Nat → Int32} {E : List Int32} (h : BY n len over cc E)
    (op vs us ws ts ds dp rs : Int32) (vc uc wc tc dc rc : Nat → Int32) :
    ∃ x, f_Sh_write n (iI (biN s u)) (iI (biS s u)) (iI (biI s u)) (iL (biC s u)) (iI (biQ s u)) op vs vc us uc s ws wc ts tc ds dp dc rs rc len over cc = some x ∧
      ∃ F, shW s u F ∧ BY n x.2.2.2.2.2.2.2.2.2.2.2.2.2.2.1 x.2.2.2.2.2.2.2.2.2.2.2.2.2.2.2.1 x.2.2.2.2.2.2.2.2.2.2.2.2.2.2.2.2 (E ++ F) := by
  have hN01 : biN s u = 0 ∨ biN s u = 1 := by unfold biN; split <;> simp
  have hI01 : biI s u = 0 ∨ biI s u = 1 := by unfold biI; split <;> simp
  have hS01 : biS s u = 0 ∨ biS s u = 1 := by
    unfold biS; split
    · simp
    · omega
  obtain ⟨hc0, hc1⟩ := biC_b hs u
  unfold f_Sh_write
  rcases hN01 with hN | hN
  · rw [hN, if_pos (show iI 0 = 0 from rfl)]
    have w27 : ∀ (len over : Int32) (cc : Nat → Int32) (E' : List Int32), BY n len over cc E' → E' = E ++ (if biS s u = 1 then [iI 45] else []) → ∃ x, f_Sh_write_27 n (iI 0) (iI (biS s u)) (iI (biI s u)) (iL (biC s u)) (iI (biQ s u)) op vs vc us uc s ws wc ts tc ds dp dc rs rc len over cc = some x ∧
        ∃ F, shW s u F ∧ BY n x.2.2.2.2.2.2.2.2.2.2.2.2.2.2.1 x.2.2.2.2.2.2.2.2.2.2.2.2.2.2.2.1 x.2.2.2.2.2.2.2.2.2.2.2.2.2.2.2.2 (E ++ F) := by
      intro len over cc E' hB hE
      subst hE
      unfold f_Sh_write_27
      rcases hI01 with hI | hI
      · rw [hI, if_pos (show iI 0 = 0 from rfl)]
        have hX : ¬ biX s u = 2 ^ szK s - 1 := by
          intro q
          by_cases f : biF s u = 0
          · unfold biI at hI; rw [if_pos ⟨q, f⟩] at hI; omega
          · unfold biN at hN; rw [if_pos ⟨q, f⟩] at hN; omega
        obtain ⟨hq0, hq1⟩ := biQ_b hs u hX
        rw [show (0 : Int64) = iL 0 from rfl, show (1 : Int64) = iL 1 from rfl, one_and hc0 (by omega)]
        by_cases hz : biC s u = 0
        · rw [if_pos (by rw [hz])]
          obtain ⟨l1, o1, c1, e1, h1⟩ := astr_spec (by omega) (o := 2) (by omega) hB
          rw [e1, Option.bind_some]
          refine ⟨_, rfl, (if biS s u = 1 then [iI 45] else []) ++ litL 2, ?_, ?_⟩
          · unfold shW
            rw [if_neg (by omega)]
            exact ⟨_, rfl, by rw [if_neg (by omega), if_pos hz]⟩
          · rw [List.append_assoc] at h1; exact h1
        · rw [if_neg (by rw [iL_eqS (by omega) (by omega) (by omega) (by omega)]; exact hz)]
          have fin : ∀ ev : Int, (ev = 0 ∨ ev = 1) → ev = (if biC s u % 2 = 0 then 1 else 0) → ∃ x, ((f_Sh_setUp (iI (biQ s u)) (iL (biC s u)) op vs vc us uc s ws wc ts tc).bind fun u63 => f_Sh_write_83 (iI ev) n (iI 0) (iI (biS s u)) (iI 0) (iL (biC s u)) (iI (biQ s u)) u63.1 u63.2.1 u63.2.2.1 u63.2.2.2.1 u63.2.2.2.2.1 s u63.2.2.2.2.2.1 u63.2.2.2.2.2.2.1 u63.2.2.2.2.2.2.2.1 u63.2.2.2.2.2.2.2.2 ds dp dc rs rc len over cc) = some x ∧ ∃ F, shW s u F ∧ BY n x.2.2.2.2.2.2.2.2.2.2.2.2.2.2.1 x.2.2.2.2.2.2.2.2.2.2.2.2.2.2.2.1 x.2.2.2.2.2.2.2.2.2.2.2.2.2.2.2.2 (E ++ F) := by
            intro ev he hev
            obtain ⟨x, e, Df, P, t, q1, q2, q3⟩ := sh_spec hs (c := biC s u) (q := biQ s u) (by omega) hc1 hq0 hq1 he hn hB (iI 0) (iI (biS s u)) (iI 0) op vs us ws ts ds dp rs vc uc wc tc dc rc
            refine ⟨x, e, (if biS s u = 1 then [iI 45] else []) ++ decE (digF Df.natAbs) P t, ?_, ?_⟩
            · unfold shW
              rw [if_neg (by omega)]
              refine ⟨_, rfl, ?_⟩
              rw [if_neg (by omega), if_neg hz]
              exact ⟨Df, P, t, by rw [← hev]; exact q1, q2, rfl⟩
            · rw [List.append_assoc] at q3; exact q3
          have h2 : biC s u % 2 = 0 ∨ biC s u % 2 = 1 := by omega
          rcases h2 with h2 | h2
          · rw [h2]
            obtain ⟨x, e, r⟩ := fin 1 (Or.inr rfl) (by rw [h2]; rfl)
            refine ⟨x, ?_, r⟩
            rw [← e]
            congr 1
          · rw [h2]
            obtain ⟨x, e, r⟩ := fin 0 (Or.inl rfl) (by rw [h2]; rfl)
            refine ⟨x, ?_, r⟩
            rw [← e]
            congr 1
      · rw [hI, if_neg (by decide)]
        obtain ⟨l1, o1, c1, e1, h1⟩ := astr_spec (by omega) (o := 1) (by omega) hB
        rw [e1, Option.bind_some]
        refine ⟨_, rfl, (if biS s u = 1 then [iI 45] else []) ++ litL 1, ?_, ?_⟩
        · unfold shW
          rw [if_neg (by omega)]
          exact ⟨_, rfl, by rw [if_pos hI]⟩
        · rw [List.append_assoc] at h1; exact h1
    rcases hS01 with hS | hS
    · rw [hS, if_pos (show iI 0 = 0 from rfl)]
      have := w27 len over cc E h (by rw [if_neg (by omega), List.append_nil])
      rw [hS] at this
      exact this
    · rw [hS, if_neg (by decide)]
      obtain ⟨l1, o1, c1, e1, h1⟩ := add_spec (by omega) h (iI 45)
      rw [show (45 : Int32) = iI 45 from rfl, e1, Option.bind_some]
      have := w27 l1 o1 c1 _ h1 (by rw [if_pos hS, sb_small (by omega) (by omega)])
      rw [hS] at this
      exact this
  · rw [hN, if_neg (by decide)]
    obtain ⟨l1, o1, c1, e1, h1⟩ := astr_spec (by omega) (o := 0) (by omega) h
    rw [e1, Option.bind_some]
    exact ⟨_, rfl, litL 0, by unfold shW; rw [if_pos hN], h1⟩
-- N
set_option maxRecDepth 10000 in
theorem updL_s (f : Nat → Int64) (k : Nat) (x : Int64) : vp_updL f k x k = x := if_pos rfl
set_option maxRecDepth 10000 in
theorem updL_n {f : Nat → Int64} {k j : Nat} {x : Int64} (h : j ≠ k) : vp_updL f k x j = f j := if_neg h
set_option maxRecDepth 10000 in
def lv (c : Nat → Int64) : Nat → Int
  | 0 => 0
  | n + 1 => lv c n + u6 (c n) * 1000000000 ^ n
set_option maxRecDepth 10000 in
theorem p9_pos (n : Nat) : (0 : Int) < 1000000000 ^ n := Int.pow_pos (by decide)
set_option maxRecDepth 10000 in
theorem pw9 (n : Nat) : (1000000000 : Int) ^ (n + 1) = 1000000000 * 1000000000 ^ n := by rw [Int.pow_succ, Int.mul_comm]
set_option maxRecDepth 10000 in
theorem lv_nn (c : Nat → Int64) : ∀ n, 0 ≤ lv c n
  | 0 => by simp [lv]
  | n + 1 => Int.add_nonneg (lv_nn c n) (Int.mul_nonneg (u6_0 _) (Int.le_of_lt (p9_pos _)))
set_option maxRecDepth 10000 in
theorem lv_congr {c d : Nat → Int64} : ∀ {n : Nat}, (∀ i, i < n → c i = d i) → lv c n = lv d n
  | 0, _ => rfl
  | n + 1, h => by rw [lv, lv, lv_congr (fun i hi => h i (by omega)), h n (by omega)]
set_option maxRecDepth 10000 in
theorem lv_upd {c : Nat → Int64} {k n : Nat} {x : Int64} (h : n ≤ k) : lv (vp_updL c k x) n = lv c n := lv_congr (fun i hi => updL_n (by omega))
set_option maxRecDepth 10000 in
def LR (us : Int32) (c : Nat → Int64) (N : Int) : Prop := ∃ s : Nat, us = iI s ∧ s ≤ 160 ∧ (∀ i, i < s → u6 (c i) < 1000000000) ∧ (0 < s → 1000000000 ^ (s - 1) ≤ N) ∧ lv c s = N
set_option maxRecDepth 10000 in
theorem LR_nn {us : Int32} {c : Nat → Int64} {N : Int} (h : LR us c N) : 0 ≤ N := by obtain ⟨s, _, _, _, _, rfl⟩ := h; exact lv_nn _ _
set_option maxRecDepth 10000 in
theorem p9_mono {a b : Nat} (h : a ≤ b) : (1000000000 : Int) ^ a ≤ 1000000000 ^ b := by
  rw [show b = a + (b - a) by omega, Int.pow_add]
  have := p9_pos a
  have := p9_pos (b - a)
  have := Int.mul_le_mul_of_nonneg_left (show (1 : Int) ≤ 1000000000 ^ (b - a) by omega) (show (0 : Int) ≤ 1000000000 ^ a by omega)
  omega
set_option maxRecDepth 10000 in
theorem mtimes_loop {k : Int} {s : Nat} (hk0 : 0 < k) (hk : k ≤ 536870912) (c0 : Nat → Int64) (hs : s < 160) (h9 : ∀ i, i < s → u6 (c0 i) < 1000000000) : ∀ (d i n : Nat) (c : Nat → Int64) (cy : Int), i + d = s → d < n → 0 ≤ cy → cy < 1000000000 → (∀ j, i ≤ j → c j = c0 j) → (∀ j, j < i → u6 (c j) < 1000000000) → lv c i + cy * 1000000000 ^ i = lv c0 i * k →
    ∃ c1 cy1, 0 ≤ cy1 ∧ cy1 < 1000000000 ∧ lv c1 s + cy1 * 1000000000 ^ s = lv c0 s * k ∧ (∀ j, j < s → u6 (c1 j) < 1000000000) ∧ f_Md_times_5 n (iL k) (iL cy) (iI i) (iI s) c = (if cy1 ≤ 0 then some (iI s, c1) else some (iI ((s : Int) + 1), vp_updL c1 s (iL cy1)))
  | 0, i, n + 1, c, cy, hi, _, hcy0, hcy, hc, hc9, hv => by
    obtain rfl : i = s := by omega
    refine ⟨c, cy, hcy0, hcy, hv, hc9, ?_⟩
    unfold f_Md_times_5
    simp (disch := omega) only [iI_lit, iL_lit, iI_add, iI_sub, iI_mul, iI_neg, iL_add, iL_sub, iL_mul, iL_neg, iI_lt, iI_le, iI_eq, iL_lt, iL_le, iL_eqS, iI_c, iI_ok, iI_l, iL_i, iI_low, l_ushrI, l_shlI, l_shrI, i_shlI, i_shrI, i_ushrI, iI_div, iL_div, Int.toNat_natCast, Int.reduceToNat, iI_ofNat]
    rw [if_pos (by omega)]
    by_cases q : cy ≤ 0
    · rw [if_pos q, if_pos q]
    · rw [if_neg q, if_neg q, if_pos (by omega)]
  | d + 1, i, n + 1, c, cy, hi, hn, hcy0, hcy, hc, hc9, hv => by
    have hlt : i < s := by omega
    have hci := hc i (Nat.le_refl _)
    have hu := h9 i hlt
    have hu0 := u6_0 (c0 i)
    have hm : u6 (c0 i) * k ≤ 999999999 * 536870912 := Int.mul_le_mul (by omega) hk (by omega) (by omega)
    have hm0 : 0 ≤ u6 (c0 i) * k := Int.mul_nonneg hu0 (by omega)
    unfold f_Md_times_5
    simp (disch := omega) only [iI_lit, iL_lit, iI_add, iI_sub, iI_mul, iI_neg, iL_add, iL_sub, iL_mul, iL_neg, iI_lt, iI_le, iI_eq, iL_lt, iL_le, iL_eqS, iI_c, iI_ok, iI_l, iL_i, iI_low, l_ushrI, l_shlI, l_shrI, i_shlI, i_shrI, i_ushrI, iI_div, iL_div, Int.toNat_natCast, Int.reduceToNat, iI_ofNat]
    rw [hci, ← l_u6 (c0 i)]
    simp (disch := omega) only [iI_lit, iL_lit, iI_add, iI_sub, iI_mul, iI_neg, iL_add, iL_sub, iL_mul, iL_neg, iI_lt, iI_le, iI_eq, iL_lt, iL_le, iL_eqS, iI_c, iI_ok, iI_l, iL_i, iI_low, l_ushrI, l_shlI, l_shrI, i_shlI, i_shrI, i_ushrI, iI_div, iL_div, Int.toNat_natCast, Int.reduceToNat, iI_ofNat]
    rw [if_neg (by omega), if_pos (by omega), if_pos (by omega)]
    have e3 : ∀ X : Int, X - X / 1000000000 * 1000000000 = X % 1000000000 := by intro X; omega
    rw [e3]
    have hq0 : 0 ≤ (cy + u6 (c0 i) * k) / 1000000000 := Int.ediv_nonneg (by omega) (by decide)
    have hq1 : (cy + u6 (c0 i) * k) / 1000000000 < 1000000000 := Int.ediv_lt_of_lt_mul (by decide) (by omega)
    refine mtimes_loop hk0 hk c0 hs h9 d (i + 1) n _ _ (by omega) (by omega) hq0 hq1 (fun j hj => ?_) (fun j hj => ?_) ?_
    · rw [updL_n (by omega)]; exact hc j (by omega)
    · by_cases e : j = i
      · subst e; rw [updL_s, u6_i (by omega) (by omega)]; omega
      · rw [updL_n e]; exact hc9 j (by omega)
    · rw [lv, lv_upd (Nat.le_refl _), updL_s, u6_i (by omega) (by omega), lv, pw9]
      have e := Int.mul_ediv_add_emod (cy + u6 (c0 i) * k) 1000000000
      generalize (1000000000 : Int) ^ i = P at *
      generalize (cy + u6 (c0 i) * k) / 1000000000 = q at *
      generalize (cy + u6 (c0 i) * k) % 1000000000 = w at *
      generalize u6 (c0 i) = u at *
      grind
set_option maxRecDepth 10000 in
theorem mtimes_spec {us : Int32} {c : Nat → Int64} {N k : Int} (h : LR us c N) (hk0 : 0 < k) (hk : k ≤ 536870912) (hb : N * k < 1000000000 ^ 150) : ∃ us' c', f_Md_times (iL k) us c = some (us', c') ∧ LR us' c' (N * k) := by
  have hN := LR_nn h
  obtain ⟨s, rfl, hs, h9, htop, hv⟩ := h
  have hs150 : s ≤ 150 := by
    rcases Nat.lt_or_ge 150 s with q | q
    · have h1 := htop (by omega)
      have h2 := p9_mono (show 150 ≤ s - 1 by omega)
      have h3 : N * 1 ≤ N * k := Int.mul_le_mul_of_nonneg_left (by omega) hN
      omega
    · exact q
  unfold f_Md_times
  obtain ⟨c1, cy1, q0, q1, q2, q3, q4⟩ := mtimes_loop hk0 hk c (by omega) h9 s 0 gx_fu c 0 (by omega) (by have := fu_pos; omega) (by omega) (by omega) (fun _ _ => rfl) (fun j hj => by omega) (by simp [lv])
  rw [show (0 : Int64) = iL 0 from rfl, show (0 : Int32) = iI (0 : Nat) from rfl, q4]
  rw [hv] at q2
  by_cases hz : cy1 ≤ 0
  · rw [if_pos hz]
    have hz0 : cy1 = 0 := by omega
    rw [hz0, Int.zero_mul, Int.add_zero] at q2
    refine ⟨_, _, rfl, s, rfl, hs, q3, fun h0 => ?_, q2⟩
    have := htop h0
    have h3 : N * 1 ≤ N * k := Int.mul_le_mul_of_nonneg_left (by omega) hN
    omega
  · rw [if_neg hz]
    refine ⟨_, _, rfl, s + 1, rfl, by omega, fun j hj => ?_, fun _ => ?_, ?_⟩
    · by_cases e : j = s
      · subst e; rw [updL_s, u6_i q0 (by omega)]; exact q1
      · rw [updL_n e]; exact q3 j (by omega)
    · rw [Nat.add_sub_cancel, ← q2]
      have := lv_nn c1 s
      have : 1 * 1000000000 ^ s ≤ cy1 * 1000000000 ^ s := Int.mul_le_mul_of_nonneg_right (by omega) (Int.le_of_lt (p9_pos _))
      omega
    · rw [lv, lv_upd (Nat.le_refl _), updL_s, u6_i q0 (by omega)]
      exact q2
set_option maxRecDepth 10000 in
theorem mapp {A d n : Nat} {c : Nat → Int32} (hd : d < 10) (h : DL 1300 (iI n) c n (digF A)) (hn : n = nd A) (hl : nd A < 1300) (hpos : 0 < 10 * A + d) : DL 1300 (iI ((n : Int) + 1)) (upd c n (iI d)) (nd (10 * A + d)) (digF (10 * A + d)) := by
  obtain ⟨_, h1, h2, h3, h4⟩ := h
  refine ⟨by rw [nd_step hd hpos, hn]; rfl, by rw [nd_step hd hpos]; omega, fun i hi => ?_, fun i hi => digF_out hi, digF_le _⟩
  rw [nd_step hd hpos] at hi
  rw [digF_step hd hpos]
  by_cases hi2 : i = nd A
  · subst hi2; rw [hn, upd_s, if_pos rfl]
  · rw [hn, upd_n hi2, if_neg hi2]; exact h2 i (by omega)
set_option maxRecDepth 10000 in
theorem r174 {K : Int32 → Int32 → Int32 → Int32 → (Nat → Int32) → (Nat → Int64) → Int32 → Option (Int32 × Int32 × (Nat → Int32) × (Nat → Int64) × Int32)} {i C : Nat} {lc : Nat → Int64} {v3 us rp : Int32} (hi : i < 160) (hC : C < 1000000000) (hlc : lc i = iL C) :
    ∀ (k m A : Nat) (sz : Int32) (c : Nat → Int32), k ≤ 9 → k < m → nd A + k ≤ 1300 → DL 1300 sz c (nd A) (digF A) →
    ∃ sz' c', DL 1300 sz' c' (nd (A * 10 ^ k + C % 10 ^ k)) (digF (A * 10 ^ k + C % 10 ^ k)) ∧ f_Md_row_174 K m v3 (iI i) (iL (10 ^ k / 10)) us sz c lc rp = K v3 (iI ((i : Int) - 1)) us sz' c' lc rp
  | 0, m + 1, A, sz, c, hk, hm, hA, h => by
    rw [f_Md_row_174]
    rw [show ((10 : Int) ^ 0 / 10) = 0 from rfl]
    simp (disch := omega) only [iI_lit, iL_lit, iI_add, iI_sub, iI_mul, iI_neg, iL_add, iL_sub, iL_mul, iL_neg, iI_lt, iI_le, iI_eq, iL_lt, iL_le, iL_eqS, iI_c, iI_ok, iI_l, iL_i, iI_low, l_ushrI, l_shlI, l_shrI, i_shlI, i_shrI, i_ushrI, iI_div, iL_div, Int.toNat_natCast, Int.reduceToNat, iI_ofNat]
    rw [if_pos (by omega)]
    refine ⟨sz, c, ?_, rfl⟩
    rw [Nat.pow_zero, Nat.mul_one, Nat.mod_one, Nat.add_zero]
    exact h
  | k + 1, m + 1, A, sz, c, hk, hm, hA, h => by
    rw [f_Md_row_174]
    have e1 : ((10 : Int) ^ (k + 1) / 10) = 10 ^ k := by rw [Int.pow_succ]; omega
    obtain ⟨hp1, hp2⟩ := p10_lt9 (show k ≤ 8 by omega)
    rw [e1]
    have e5 : ((10 ^ k : Nat) : Int) = 10 ^ k := by simp
    simp (disch := omega) only [iI_lit, iL_lit, iI_add, iI_sub, iI_mul, iI_neg, iL_add, iL_sub, iL_mul, iL_neg, iI_lt, iI_le, iI_eq, iL_lt, iL_le, iL_eqS, iI_c, iI_ok, iI_l, iL_i, iI_low, l_ushrI, l_shlI, l_shrI, i_shlI, i_shrI, i_ushrI, iI_div, iL_div, Int.toNat_natCast, Int.reduceToNat, iI_ofNat, hlc]
    have hq0 : 0 ≤ (C : Int) / 10 ^ k := Int.ediv_nonneg (by omega) (by omega)
    have hq1 : (C : Int) / 10 ^ k ≤ C := Int.ediv_le_self _ (by omega)
    simp (disch := omega) only [iI_lit, iL_lit, iI_add, iI_sub, iI_mul, iI_neg, iL_add, iL_sub, iL_mul, iL_neg, iI_lt, iI_le, iI_eq, iL_lt, iL_le, iL_eqS, iI_c, iI_ok, iI_l, iL_i, iI_low, l_ushrI, l_shlI, l_shrI, i_shlI, i_shrI, i_ushrI, iI_div, iL_div, Int.toNat_natCast, Int.reduceToNat, iI_ofNat]
    rw [if_neg (by omega), if_pos (by omega), if_pos (by omega)]
    have hdig : (C : Int) / 10 ^ k - (C : Int) / 10 ^ k / 10 * 10 = ((C / 10 ^ k % 10 : Nat) : Int) := by
      rw [← e5]
      omega
    rw [hdig]
    generalize hD : C / 10 ^ k % 10 = D
    have hD10 : D < 10 := by omega
    have hsb : (iI (D : Int)).toInt8.toInt32 = iI D := sb_small (by omega) (by omega)
    rw [hsb]
    have e2 : (10 * A + D) * 10 ^ k + C % 10 ^ k = A * 10 ^ (k + 1) + C % 10 ^ (k + 1) := by
      rw [Nat.pow_succ, Nat.mod_mul, ← hD]
      generalize 10 ^ k = P
      grind
    have hnd : nd (10 * A + D) ≤ nd A + 1 := by
      have := nd_app A 1 (r := D) (by omega)
      rw [show A * 10 ^ 1 = 10 * A by omega] at this
      exact this
    have go : ∀ (sz' : Int32) (c' : Nat → Int32), DL 1300 sz' c' (nd (10 * A + D)) (digF (10 * A + D)) → ∃ sz2 c2, DL 1300 sz2 c2 (nd (A * 10 ^ (k + 1) + C % 10 ^ (k + 1))) (digF (A * 10 ^ (k + 1) + C % 10 ^ (k + 1))) ∧ f_Md_row_239 K (fun v3 v5 v6 o_usedq a3_nq a3_d_cq o_limbs_cq a3_pq => f_Md_row_174 K m v3 v5 v6 o_usedq a3_nq a3_d_cq o_limbs_cq a3_pq) v3 (iI i) (iL (10 ^ k)) us sz' c' lc rp = K v3 (iI ((i : Int) - 1)) us sz2 c2 lc rp := by
      intro sz' c' h'
      unfold f_Md_row_239
      simp (disch := omega) only [iI_lit, iL_lit, iI_add, iI_sub, iI_mul, iI_neg, iL_add, iL_sub, iL_mul, iL_neg, iI_lt, iI_le, iI_eq, iL_lt, iL_le, iL_eqS, iI_c, iI_ok, iI_l, iL_i, iI_low, l_ushrI, l_shlI, l_shrI, i_shlI, i_shrI, i_ushrI, iI_div, iL_div, Int.toNat_natCast, Int.reduceToNat, iI_ofNat]
      obtain ⟨sz2, c2, h3, h4⟩ := r174 (K := K) (v3 := v3) (us := us) (rp := rp) hi hC hlc k m (10 * A + D) sz' c' (by omega) (by omega) (by omega) h'
      rw [e2] at h3
      exact ⟨sz2, c2, h3, h4⟩
    have hsz := h.1
    have h215 : 0 < 10 * A + D → ∃ sz2 c2, DL 1300 sz2 c2 (nd (A * 10 ^ (k + 1) + C % 10 ^ (k + 1))) (digF (A * 10 ^ (k + 1) + C % 10 ^ (k + 1))) ∧ f_Md_row_215 K (fun v3 v5 v6 o_usedq a3_nq a3_d_cq o_limbs_cq a3_pq => f_Md_row_174 K m v3 v5 v6 o_usedq a3_nq a3_d_cq o_limbs_cq a3_pq) v3 (iI i) (iL (10 ^ k)) (iI D) us sz c lc rp = K v3 (iI ((i : Int) - 1)) us sz2 c2 lc rp := by
      intro hpos
      unfold f_Md_row_215
      rw [nar_bs, sb_small (by omega) (by omega)]
      subst hsz
      simp (disch := omega) only [iI_lit, iL_lit, iI_add, iI_sub, iI_mul, iI_neg, iL_add, iL_sub, iL_mul, iL_neg, iI_lt, iI_le, iI_eq, iL_lt, iL_le, iL_eqS, iI_c, iI_ok, iI_l, iL_i, iI_low, l_ushrI, l_shlI, l_shrI, i_shlI, i_shrI, i_ushrI, iI_div, iL_div, Int.toNat_natCast, Int.reduceToNat, iI_ofNat]
      rw [if_pos (by omega)]
      exact go _ _ (mapp hD10 h rfl (by omega) hpos)
    by_cases hA0 : A = 0
    · have hn0 : nd A = 0 := by rw [hA0, nd_zero]
      rw [if_pos (by rw [hsz, hn0]; rfl)]
      by_cases hD0 : D = 0
      · rw [if_pos (by rw [hD0]; rfl)]
        refine go sz c ?_
        rw [hA0, hD0]
        rw [hA0] at h
        exact h
      · rw [if_neg (by rw [iI_eq (by omega) (by omega) (by omega) (by omega)]; omega)]
        exact h215 (by omega)
    · have := nd_pos (N := A) (by omega)
      rw [if_neg (by rw [hsz, iI_eq (by omega) (by omega) (by omega) (by omega)]; omega)]
      exact h215 (by omega)
-- N2
set_option maxRecDepth 10000 in
def lvN (c : Nat → Int64) (n : Nat) : Nat := (lv c n).toNat
set_option maxRecDepth 10000 in
theorem r276 {δ : Nat → Nat} (h9 : ∀ i, δ i ≤ 9) {us rp : Int32} {lc : Nat → Int64} {c : Nat → Int32} : ∀ (s n : Nat), s ≤ 1300 → s < n → (∀ i, i < s → c i = iI (δ i)) → (∀ i, s ≤ i → δ i = 0) → ∃ t : Nat, t ≤ s ∧ f_Md_row_276 n us (iI s) c lc rp = some (us, iI t, c, lc, rp) ∧ isStrip δ t ∧ DL 1300 (iI t) c t δ
  | 0, n + 1, _, _, hc, h0 => ⟨0, Nat.le_refl _, by rw [f_Md_row_276, if_pos (by decide)], ⟨h0, fun h => absurd h (by omega)⟩, rfl, by omega, fun i hi => by omega, h0, h9⟩
  | s + 1, n + 1, hs, hn, hc, h0 => by
    rw [f_Md_row_276]
    simp (disch := omega) only [iI_lit, iL_lit, iI_add, iI_sub, iI_mul, iI_neg, iL_add, iL_sub, iL_mul, iL_neg, iI_lt, iI_le, iI_eq, iL_lt, iL_le, iL_eqS, iI_c, iI_ok, iI_l, iL_i, iI_low, l_ushrI, l_shlI, l_shrI, i_shlI, i_shrI, i_ushrI, iI_div, iL_div, Int.toNat_natCast, Int.reduceToNat, iI_ofNat]
    rw [if_neg (by omega), if_pos (by omega)]
    simp only [show (((s + 1 : Nat) : Int) - 1) = (s : Int) by omega, Int.toNat_natCast]
    have := h9 s
    rw [hc s (by omega)]
    simp (disch := omega) only [iI_lit, iL_lit, iI_add, iI_sub, iI_mul, iI_neg, iL_add, iL_sub, iL_mul, iL_neg, iI_lt, iI_le, iI_eq, iL_lt, iL_le, iL_eqS, iI_c, iI_ok, iI_l, iL_i, iI_low, l_ushrI, l_shlI, l_shrI, i_shlI, i_shrI, i_ushrI, iI_div, iL_div, Int.toNat_natCast, Int.reduceToNat, iI_ofNat]
    by_cases h : δ s = 0
    · rw [if_pos (by omega)]
      obtain ⟨t, h1, h2, h3, h4⟩ := r276 h9 s n (by omega) (by omega) (fun i hi => hc i (by omega)) (fun i hi => by
        by_cases e : i = s
        · subst e; exact h
        · exact h0 i (by omega))
      exact ⟨t, by omega, h2, h3, h4⟩
    · rw [if_neg (by omega)]
      exact ⟨s + 1, Nat.le_refl _, rfl, ⟨h0, fun _ => h⟩, rfl, hs, hc, h0, h9⟩
set_option maxRecDepth 10000 in
theorem r164 {q : Int} (hq0 : -2000 ≤ q) (hq1 : q ≤ 2000) {us rp : Int32} {lc : Nat → Int64} :
    ∀ (i m A : Nat) (sz : Int32) (c : Nat → Int32), i ≤ 160 → i < m → nd A + 9 * i ≤ 1300 → (∀ j, j < i → u6 (lc j) < 1000000000) → DL 1300 sz c (nd A) (digF A) →
    ∃ (t : Nat) (c' : Nat → Int32) (M : Nat), (M : Int) = (A : Int) * 1000000000 ^ i + lv lc i ∧ f_Md_row_164 m (iI q) (iI ((i : Int) - 1)) us sz c lc rp = some (us, iI t, c', lc, iI ((nd M : Int) + min q 0)) ∧ isStrip (digF M) t ∧ DL 1300 (iI t) c' t (digF M)
  | 0, m + 1, A, sz, c, hi, hm, hA, hch, h => by
    rw [f_Md_row_164]
    obtain ⟨rfl, h1, h2, h3, h4⟩ := h
    simp (disch := omega) only [iI_lit, iL_lit, iI_add, iI_sub, iI_mul, iI_neg, iL_add, iL_sub, iL_mul, iL_neg, iI_lt, iI_le, iI_eq, iL_lt, iL_le, iL_eqS, iI_c, iI_ok, iI_l, iL_i, iI_low, l_ushrI, l_shlI, l_shrI, i_shlI, i_shrI, i_ushrI, iI_div, iL_div, Int.toNat_natCast, Int.reduceToNat, iI_ofNat]
    rw [if_pos (by omega)]
    have go : ∀ x : Int, x = min q 0 → ∃ (t : Nat) (c' : Nat → Int32) (M : Nat), (M : Int) = (A : Int) * 1000000000 ^ 0 + lv lc 0 ∧ f_Md_row_272 (iI x) (iI (nd A)) us (iI (nd A)) c lc rp = some (us, iI t, c', lc, iI ((nd M : Int) + min q 0)) ∧ isStrip (digF M) t ∧ DL 1300 (iI t) c' t (digF M) := by
      intro x hx
      unfold f_Md_row_272
      rw [iI_add, hx]
      obtain ⟨t, q1, q2, q3, q4⟩ := r276 (us := us) (rp := iI ((nd A : Int) + min q 0)) (lc := lc) (c := c) h4 (nd A) gx_fu h1 (by have := fu_pos; omega) h2 h3
      exact ⟨t, c, A, by simp [lv], q2, q3, q4⟩
    by_cases hq : 0 ≤ q
    · rw [if_pos hq]; exact go 0 (by omega)
    · rw [if_neg hq]; exact go q (by omega)
  | i + 1, m + 1, A, sz, c, hi, hm, hA, hch, h => by
    rw [f_Md_row_164]
    have hC := hch i (by omega)
    have hC0 := u6_0 (lc i)
    rw [show (((i + 1 : Nat) : Int) - 1) = (i : Int) by omega]
    simp (disch := omega) only [iI_lit, iL_lit, iI_add, iI_sub, iI_mul, iI_neg, iL_add, iL_sub, iL_mul, iL_neg, iI_lt, iI_le, iI_eq, iL_lt, iL_le, iL_eqS, iI_c, iI_ok, iI_l, iL_i, iI_low, l_ushrI, l_shlI, l_shrI, i_shlI, i_shrI, i_ushrI, iI_div, iL_div, Int.toNat_natCast, Int.reduceToNat, iI_ofNat]
    rw [if_neg (by omega)]
    obtain ⟨sz1, c1, h1, h2⟩ := r174 (K := fun v3 v5 o_usedq a3_nq a3_d_cq o_limbs_cq a3_pq => f_Md_row_164 m v3 v5 o_usedq a3_nq a3_d_cq o_limbs_cq a3_pq) (i := i) (C := (u6 (lc i)).toNat) (lc := lc) (v3 := iI q) (us := us) (rp := rp) (by omega) (by omega) (by rw [Int.toNat_of_nonneg hC0, l_u6]) 9 gx_fu A sz c (by omega) (by have := fu_pos; omega) (by omega) h
    rw [show ((10 : Int) ^ 9 / 10) = 100000000 from rfl] at h2
    rw [h2]
    rw [Nat.mod_eq_of_lt (by show (u6 (lc i)).toNat < 1000000000; omega)] at h1
    have hnd := nd_app A 9 (r := (u6 (lc i)).toNat) (by show _ < 1000000000; omega)
    obtain ⟨t, c2, M, h3, h4, h5, h6⟩ := r164 hq0 hq1 (us := us) (rp := rp) (lc := lc) i m (A * 10 ^ 9 + (u6 (lc i)).toNat) sz1 c1 (by omega) (by omega) (by omega) (fun j hj => hch j (by omega)) h1
    refine ⟨t, c2, M, ?_, h4, h5, h6⟩
    rw [h3, lv, pw9]
    have e : ((A * 10 ^ 9 + (u6 (lc i)).toNat : Nat) : Int) = (A : Int) * 1000000000 + u6 (lc i) := by
      rw [Int.natCast_add, Int.natCast_mul, Int.toNat_of_nonneg hC0]; rfl
    rw [e]
    generalize (1000000000 : Int) ^ i = P
    generalize u6 (lc i) = u
    grind
set_option maxRecDepth 10000 in
theorem rEnd {q : Int} (hq0 : -2000 ≤ q) (hq1 : q ≤ 2000) {us : Int32} {lc : Nat → Int64} {N : Int} (h : LR us lc N) (hN : N < 1000000000 ^ 140) (c : Nat → Int32) (rp : Int32) :
    ∃ (t : Nat) (c' : Nat → Int32), f_Md_row_164 gx_fu (iI q) (us - 1) us (iI 0) c lc rp = some (us, iI t, c', lc, iI ((nd N.toNat : Int) + min q 0)) ∧ isStrip (digF N.toNat) t ∧ DL 1300 (iI t) c' t (digF N.toNat) := by
  obtain ⟨s, rfl, hs, h9, htop, hv⟩ := h
  have hs140 : s ≤ 140 := by
    rcases Nat.lt_or_ge 140 s with q | q
    · have h1 := htop (by omega)
      have h2 := p9_mono (show 140 ≤ s - 1 by omega)
      omega
    · exact q
  obtain ⟨t, c', M, h3, h4, h5, h6⟩ := r164 hq0 hq1 (us := iI s) (rp := rp) (lc := lc) s gx_fu 0 (iI 0) c hs (by have := fu_pos; omega) (by rw [nd_zero]; omega) h9 ⟨by rw [nd_zero]; rfl, by rw [nd_zero]; omega, fun i hi => by rw [nd_zero] at hi; omega, fun i hi => digF_out hi, digF_le _⟩
  have hM : M = N.toNat := by
    rw [hv] at h3
    simp at h3
    omega
  rw [hM] at h4 h5 h6
  rw [show (1 : Int32) = iI 1 from rfl, iI_sub]
  exact ⟨t, c', h4, h5, h6⟩
set_option maxRecDepth 10000 in
theorem p9_140 : (2 : Int) ^ 2600 < 1000000000 ^ 140 := by decide +kernel
set_option maxRecDepth 10000 in
theorem p9_150 : (1000000000 : Int) ^ 140 < 1000000000 ^ 150 := by decide +kernel
set_option maxRecDepth 10000 in
def rowP (us : Int32) (N : Int) (q : Int) (x : Option (Int32 × Int32 × (Nat → Int32) × (Nat → Int64) × Int32)) : Prop :=
  ∃ (us' : Int32) (t : Nat) (c' : Nat → Int32) (lc' : Nat → Int64), x = some (us', iI t, c', lc', iI ((nd N.toNat : Int) + min q 0)) ∧ isStrip (digF N.toNat) t ∧ DL 1300 (iI t) c' t (digF N.toNat)
set_option maxRecDepth 10000 in
theorem r119 {q : Int} (hq0 : -2000 ≤ q) (hq1 : q ≤ 2000) (rn rp : Int32) (c : Nat → Int32) : ∀ (d k m : Nat) (us : Int32) (lc : Nat → Int64) (N : Int), (k : Int) + d = (if q < 0 then -q % 12 else 0) → d < m → LR us lc N → N * 5 ^ d < 2 ^ 2600 → rowP us (N * 5 ^ d) q (f_Md_row_119 m (iI q) (iI k) us rn c lc rp)
  | d, k, 0, us, lc, N, hk, hm, h, hb => by omega
  | d, k, m + 1, us, lc, N, hk, hm, h, hb => by
    have hN := LR_nn h
    have hp140 := p9_140
    have hp150 := p9_150
    have fin : d = 0 → rowP us (N * 5 ^ d) q (f_Md_row_164 gx_fu (iI q) (us - 1) us (iI 0) c lc rp) := by
      intro hd
      subst hd
      rw [Int.pow_zero, Int.mul_one] at *
      obtain ⟨t, c', e, h1, h2⟩ := rEnd hq0 hq1 h (by omega) c rp
      exact ⟨us, t, c', lc, e, h1, h2⟩
    have step : 0 < d → rowP us (N * 5 ^ d) q ((f_Md_times (iL 5) us lc).bind fun u141 => f_Md_row_119 m (iI q) (iI ((k : Int) + 1)) u141.1 rn c u141.2 rp) := by
      intro hd
      have e5 : (5 : Int) ^ d = 5 * 5 ^ (d - 1) := by rw [← Int.pow_succ']; congr 1; omega
      have hp := p5_pos (d - 1)
      have hle : N * 5 ≤ N * 5 ^ d := by
        rw [e5]
        exact Int.mul_le_mul_of_nonneg_left (by omega) hN
      obtain ⟨us1, lc1, e1, h1⟩ := mtimes_spec h (k := 5) (by omega) (by omega) (by omega)
      rw [e1, Option.bind_some]
      have ee : N * 5 ^ d = N * 5 * 5 ^ (d - 1) := by rw [e5, Int.mul_assoc]
      rw [ee]
      rw [ee] at hb
      have := r119 hq0 hq1 rn rp c (d - 1) (k + 1) m us1 lc1 (N * 5) (by omega) (by omega) h1 hb
      exact this
    rw [f_Md_row_119]
    unfold f_Md_row_134
    simp (disch := omega) only [iI_lit, iL_lit, iI_add, iI_sub, iI_mul, iI_neg, iL_add, iL_sub, iL_mul, iL_neg, iI_lt, iI_le, iI_eq, iL_lt, iL_le, iL_eqS, iI_c, iI_ok, iI_l, iL_i, iI_low, l_ushrI, l_shlI, l_shrI, i_shlI, i_shrI, i_ushrI, iI_div, iL_div, Int.toNat_natCast, Int.reduceToNat, iI_ofNat]
    by_cases hq : 0 ≤ q
    · rw [if_neg (by omega)] at hk
      rw [if_pos hq, if_pos (by omega)]
      exact fin (by omega)
    · rw [if_pos (by omega)] at hk
      rw [if_neg hq, show -q - -q / 12 * 12 = -q % 12 by omega]
      by_cases hd : d = 0
      · rw [if_pos (by omega)]; exact fin hd
      · rw [if_neg (by omega)]; exact step (by omega)
set_option maxRecDepth 10000 in
theorem r93 {q : Int} (hq0 : -2000 ≤ q) (hq1 : q ≤ 2000) (rn rp : Int32) (c : Nat → Int32) : ∀ (d k m : Nat) (us : Int32) (lc : Nat → Int64) (N : Int), (k : Int) + d = (if q < 0 then -q else 0) → k % 12 = 0 → d < m → LR us lc N → N * 5 ^ d < 2 ^ 2600 → rowP us (N * 5 ^ d) q (f_Md_row_93 m (iI q) (iI k) us rn c lc rp)
  | d, k, 0, us, lc, N, hk, h12, hm, h, hb => by omega
  | d, k, m + 1, us, lc, N, hk, h12, hm, h, hb => by
    have hN := LR_nn h
    have hp140 := p9_140
    have hp150 := p9_150
    rw [f_Md_row_93]
    simp (disch := omega) only [iI_lit, iL_lit, iI_add, iI_sub, iI_mul, iI_neg, iL_add, iL_sub, iL_mul, iL_neg, iI_lt, iI_le, iI_eq, iL_lt, iL_le, iL_eqS, iI_c, iI_ok, iI_l, iL_i, iI_low, l_ushrI, l_shlI, l_shrI, i_shlI, i_shrI, i_ushrI, iI_div, iL_div, Int.toNat_natCast, Int.reduceToNat, iI_ofNat]
    by_cases hlt : -q < (k : Int) + 12
    · rw [if_pos hlt]
      refine r119 hq0 hq1 rn rp c d 0 gx_fu us lc N ?_ (by have := fu_pos; split at hk <;> omega) h hb
      split at hk
      · rename_i hneg; rw [if_pos hneg]; omega
      · rename_i hneg; rw [if_neg hneg]; omega
    · rw [if_neg hlt]
      rw [if_pos (by omega)] at hk
      have e5 : (5 : Int) ^ d = 244140625 * 5 ^ (d - 12) := by rw [show (244140625 : Int) = 5 ^ 12 from rfl, ← Int.pow_add]; congr 1; omega
      have hp := p5_pos (d - 12)
      have hle : N * 244140625 ≤ N * 5 ^ d := by
        rw [e5]
        exact Int.mul_le_mul_of_nonneg_left (by omega) hN
      obtain ⟨us1, lc1, e1, h1⟩ := mtimes_spec h (k := 244140625) (by omega) (by omega) (by omega)
      rw [e1, Option.bind_some]
      have ee : N * 5 ^ d = N * 244140625 * 5 ^ (d - 12) := by rw [e5, Int.mul_assoc]
      rw [ee]
      rw [ee] at hb
      exact r93 hq0 hq1 rn rp c (d - 12) (k + 12) m us1 lc1 (N * 244140625) (by rw [if_pos (by omega)]; omega) (by omega) (by omega) h1 hb
