-- V
set_option maxRecDepth 10000 in
theorem spl_len (v : Int) : (spL v).length = nd1 v.natAbs + (if v < 0 then 1 else 0) := by
  unfold spL
  by_cases h : v < 0
  · rw [if_pos h, if_pos h]; simp
    try omega
  · rw [if_neg h, if_neg h]; simp
set_option maxRecDepth 10000 in
theorem spl_get {v : Int} {i : Nat} {x : Int32} (h : (spL v)[i]? = some x) : (v < 0 ∧ i = 0 ∧ x = iI 45) ∨ (∃ j, j < nd1 v.natAbs ∧ i = j + (if v < 0 then 1 else 0) ∧ x = iI (48 + (v.natAbs / 10 ^ (nd1 v.natAbs - 1 - j) % 10 : Nat))) := by
  unfold spL at h
  have key : ∀ j y, ((List.range' 0 (nd1 v.natAbs)).map (fun i : Nat => iI (48 + (v.natAbs / 10 ^ (nd1 v.natAbs - 1 - i) % 10 : Nat))))[j]? = some y → j < nd1 v.natAbs ∧ y = iI (48 + (v.natAbs / 10 ^ (nd1 v.natAbs - 1 - j) % 10 : Nat)) := by
    intro j y hj
    have hl := (List.getElem?_eq_some_iff.mp hj).1
    rw [List.length_map, List.length_range'] at hl
    rw [List.getElem?_map, List.getElem?_range' hl] at hj
    simp only [Option.map_some, Option.some.injEq] at hj
    refine ⟨hl, ?_⟩
    rw [← hj]
    simp
  by_cases hv : v < 0
  · rw [if_pos hv] at h ⊢
    cases i with
    | zero => simp at h; exact Or.inl ⟨hv, rfl, h.symm⟩
    | succ i =>
      rw [List.singleton_append, List.getElem?_cons_succ] at h
      obtain ⟨h1, h2⟩ := key i x h
      exact Or.inr ⟨i, h1, rfl, h2⟩
  · rw [if_neg hv] at h ⊢
    rw [List.nil_append] at h
    obtain ⟨h1, h2⟩ := key i x h
    exact Or.inr ⟨i, h1, rfl, h2⟩
set_option maxRecDepth 10000 in
def SPL (x : Option (Int32 × (Nat → Int32))) (v : Int) : Prop := ∃ c', x = some (iI (spL v).length, c') ∧ ∀ i y, (spL v)[i]? = some y → c' i = y
set_option maxRecDepth 10000 in
theorem sp75 {v : Int} {n : Nat} (hn : n + 2 ≤ 72) (hn1 : nd1 v.natAbs = n + 1) {c : Nat → Int32} (hc : ∀ j, j ≤ n → c j = iI (48 + (v.natAbs / 10 ^ j % 10 : Nat))) (hneg : v < 0 → c (n + 1) = iI 45) : SPL (f_Md_spell_75 (iI ((n + 1 + (if v < 0 then 1 else 0) : Nat) : Int)) c) v := by
  unfold f_Md_spell_75
  have hb : ∀ i, i < n + 1 + (if v < 0 then 1 else 0) → sb (c i) = c i := by
    intro i hi
    by_cases q : i ≤ n
    · rw [hc i q]; exact sb_small (by omega) (by omega)
    · split at hi
      · rename_i hv
        rw [show i = n + 1 by omega, hneg hv]; exact sb_small (by omega) (by omega)
      · omega
  obtain ⟨c', e, h⟩ := turn_spec (n := n + 1 + (if v < 0 then 1 else 0)) (by split <;> omega) hb
  rw [e, Option.bind_some]
  refine ⟨c', by rw [spl_len, hn1], fun i y hy => ?_⟩
  rcases spl_get hy with ⟨h1, h2, h3⟩ | ⟨j, h1, h2, h3⟩
  · rw [h2, h 0 (by omega), if_pos h1, show n + 1 + 1 - 1 - 0 = n + 1 by omega, hneg h1, h3]
  · rw [hn1] at h1 h3
    rw [h3, h i (by rw [h2]; split <;> omega)]
    have e2 : n + 1 + (if v < 0 then 1 else 0) - 1 - i = n - j := by rw [h2]; split <;> omega
    rw [e2, hc _ (by omega), show n + 1 - 1 - j = n - j by omega]
set_option maxRecDepth 10000 in
theorem nd19 {A : Nat} (h : A ≤ 9223372036854775808) : nd A ≤ 19 := nd_le_of (by show A < 10000000000000000000; omega)
set_option maxRecDepth 10000 in
theorem sp5 {v : Int} (hv1 : -9223372036854775808 ≤ v) (hv2 : v < 9223372036854775808) : ∀ (d n m : Nat) (x : Int) (c : Nat → Int32), n + d = 20 → d < m → -9223372036854775808 ≤ x → x < 9223372036854775808 → x.natAbs = v.natAbs / 10 ^ n → (0 ≤ v → 0 ≤ x) → (v < 0 → x ≤ 0) → (0 < n → x ≠ 0) → (∀ j, j < n → c j = iI (48 + (v.natAbs / 10 ^ j % 10 : Nat))) → SPL (f_Md_spell_5 m (iL v) (iI n) (iL x) c) v
  | 0, n, m, x, c, hn, hm, hx1, hx2, hxa, hp, hq, hne, hc => by
    exfalso
    have : v.natAbs < 10 ^ 20 := by show v.natAbs < 100000000000000000000; omega
    have hn20 : n = 20 := by omega
    rw [hn20, Nat.div_eq_of_lt this] at hxa
    exact hne (by omega) (by omega)
  | d + 1, n, 0, x, c, hn, hm, hx1, hx2, hxa, hp, hq, hne, hc => by omega
  | d + 1, n, m + 1, x, c, hn, hm, hx1, hx2, hxa, hp, hq, hne, hc => by
    obtain ⟨t1, t2, t3, t4, t5, t6, t7⟩ := td10 hx1 hx2
    have key : ∀ dd : Int, dd = ((v.natAbs / 10 ^ n % 10 : Nat) : Int) → SPL (f_Md_spell_36 (fun v1 v3 v4 o_spelled_cq => f_Md_spell_5 m v1 v3 v4 o_spelled_cq) (iL v) (iI n) (iL x) (iL dd) (iL 48) (iI n) c) v := by
      intro dd hdd
      have hd0 : 0 ≤ dd ∧ dd ≤ 9 := by omega
      unfold f_Md_spell_36
      rw [show (10 : Int64) = iL 10 from rfl, t1]
      simp only [nar_b]
      simp (disch := omega) only [iI_lit, iL_lit, iI_add, iI_sub, iI_mul, iI_neg, iL_add, iL_sub, iL_mul, iL_neg, iI_lt, iI_le, iI_eq, iL_lt, iL_le, iL_eqS, iI_c, iI_ok, iI_l, iL_i, iI_low, l_ushrI, l_shlI, l_shrI, i_shlI, i_shrI, i_ushrI, iI_div, iL_div, Int.toNat_natCast, Int.reduceToNat, iI_ofNat]
      rw [sb_small (by omega) (by omega), if_pos (by omega)]
      have hc' : ∀ j, j < n + 1 → upd c n (iI (48 + dd)) j = iI (48 + (v.natAbs / 10 ^ j % 10 : Nat)) := by
        intro j hj
        by_cases e : j = n
        · subst e; rw [upd_s, hdd]
        · rw [upd_n e]; exact hc j (by omega)
      have hdiv : v.natAbs / 10 ^ (n + 1) = x.natAbs / 10 := by rw [Nat.pow_succ, ← Nat.div_div_eq_div_mul, ← hxa]
      by_cases hz : x.tdiv 10 = 0
      · rw [if_pos hz]
        have hn1 : nd1 v.natAbs = n + 1 := by
          have hlt : v.natAbs < 10 ^ (n + 1) := by
            have : v.natAbs / 10 ^ (n + 1) = 0 := by rw [hdiv]; omega
            exact (Nat.div_eq_zero_iff_lt (Nat.pow_pos (by omega))).mp this
          unfold nd1
          by_cases h0 : v.natAbs = 0
          · rw [if_pos h0]
            rcases Nat.eq_zero_or_pos n with r | r
            · omega
            · exfalso
              rw [h0, Nat.zero_div] at hxa
              exact hne r (by omega)
          · rw [if_neg h0]
            refine nd_uniq (by omega) hlt ?_
            rw [Nat.add_sub_cancel]
            rcases Nat.eq_zero_or_pos n with r | r
            · subst r; simp; omega
            · have h1 := hne r
              have h2 : 1 ≤ v.natAbs / 10 ^ n := by rw [← hxa]; omega
              have := (Nat.le_div_iff_mul_le (Nat.pow_pos (show 0 < 10 by omega))).mp h2
              omega
        by_cases hv : 0 ≤ v
        · rw [if_pos hv]
          have := sp75 (v := v) (n := n) (c := upd c n (iI (48 + dd))) (by omega) hn1 (fun j hj => hc' j (by omega)) (fun q => by omega)
          rw [if_neg (show ¬ v < 0 by omega), Nat.add_zero] at this
          exact this
        · rw [if_neg hv, if_pos (by omega), nar_bs, sb_small (by omega) (by omega)]
          have e1 : ((n : Int) + 1).toNat = n + 1 := by omega
          rw [e1]
          have := sp75 (v := v) (n := n) (c := upd (upd c n (iI (48 + dd))) (n + 1) (iI 45)) (by omega) hn1 (fun j hj => by rw [upd_n (by omega)]; exact hc' j (by omega)) (fun q => upd_s _ _ _)
          rw [if_pos (show v < 0 by omega)] at this
          exact this
      · rw [if_neg hz]
        exact sp5 hv1 hv2 d (n + 1) m (x.tdiv 10) _ (by omega) (by omega) t6 t7 (by rw [t2, hdiv]) (fun q => by have := hp q; omega) (fun q => by have := hq q; omega) (fun _ => hz) (fun j hj => hc' j hj)
    rw [f_Md_spell_5]
    rw [show (10 : Int64) = iL 10 from rfl, t1]
    simp (disch := omega) only [iI_lit, iL_lit, iI_add, iI_sub, iI_mul, iI_neg, iL_add, iL_sub, iL_mul, iL_neg, iI_lt, iI_le, iI_eq, iL_lt, iL_le, iL_eqS, iI_c, iI_ok, iI_l, iL_i, iI_low, l_ushrI, l_shlI, l_shrI, i_shlI, i_shrI, i_ushrI, iI_div, iL_div, Int.toNat_natCast, Int.reduceToNat, iI_ofNat]
    rw [hxa] at t3
    by_cases hs : 0 ≤ x - x.tdiv 10 * 10
    · rw [if_pos hs]; exact key _ (by omega)
    · rw [if_neg hs]; exact key _ (by omega)
set_option maxRecDepth 10000 in
theorem spell_spec {v : Int} (hv1 : -9223372036854775808 ≤ v) (hv2 : v < 9223372036854775808) (c : Nat → Int32) : SPL (f_Md_spell (iL v) c) v := by
  unfold f_Md_spell
  exact sp5 hv1 hv2 20 0 gx_fu v c (by omega) (by have := fu_pos; omega) hv1 hv2 (by simp) (fun h => h) (fun h => by omega) (fun h => by omega) (fun j hj => by omega)
set_option maxRecDepth 10000 in
def OUT {τ : Type} (π : τ → Nat) (x : Option τ) (bl L : Nat) (Pr : τ → Prop) : Prop := ∃ r, x = some r ∧ bl ≤ π r ∧ π r ≤ max bl (2 * L) ∧ Pr r
set_option maxRecDepth 10000 in
theorem OUT_mo {τ : Type} {π : τ → Nat} {x : Option τ} {bl L : Nat} {Pr : τ → Prop} (h : OUT π x bl L Pr) : OUT π (gx_mo π bl x) bl L Pr := by
  obtain ⟨r, e, h1, h2, h3⟩ := h
  exact ⟨r, mo_some e h1, h1, h2, h3⟩
set_option maxRecDepth 10000 in
theorem OUT_bind {σ τ : Type} {ρ : σ → Nat} {π : τ → Nat} {x : Option σ} {bl L : Nat} {Pa : σ → Prop} {Pr : τ → Prop} {k : σ → Option τ} (h : OUT ρ x bl L Pa) (hk : ∀ u, Pa u → bl ≤ ρ u → ρ u ≤ max bl (2 * L) → OUT π (k u) (ρ u) L Pr) : OUT π (x.bind fun u => gx_mo π (ρ u) (if bl ≤ ρ u then k u else none)) bl L Pr := by
  obtain ⟨u, e, h1, h2, h3⟩ := h
  rw [e, Option.bind_some, if_pos h1]
  obtain ⟨r, e2, g1, g2, g3⟩ := OUT_mo (hk u h3 h1 h2)
  exact ⟨r, e2, by omega, by omega, g3⟩
set_option maxRecDepth 10000 in
theorem OUT_put {h : Int32} {c : Nat → Int32} {bl L : Nat} {E : List Int32} (hM : MB h c bl E) (hL : E.length < L) (hL2 : L ≤ 200000) (hbl : bl ≤ 400000) (x : Int32) : OUT (fun r : Int32 × (Nat → Int32) × Nat => r.2.2) (f_Md_put x h c bl) bl L (fun r => MB r.1 r.2.1 r.2.2 (E ++ [sb x])) := by
  obtain ⟨h', c', bl', e, h1, h2, h3⟩ := put_spec hM hL hL2 hbl x
  exact ⟨(h', c', bl'), e, h2, h3, h1⟩
set_option maxRecDepth 10000 in
theorem OUT_of {x : Option (Int32 × (Nat → Int32) × Nat)} {bl L : Nat} {E : List Int32} (h : PUT x bl L E) : OUT (fun r : Int32 × (Nat → Int32) × Nat => r.2.2) x bl L (fun r => MB r.1 r.2.1 r.2.2 E) := by
  obtain ⟨h', c', bl', e, h1, h2, h3⟩ := h
  exact ⟨(h', c', bl'), e, h2, h3, h1⟩
set_option maxRecDepth 10000 in
theorem pn9 {S : List Int32} (hS : S.length ≤ 72) (hb : ∀ x ∈ S, sb x = x) {sp : Nat → Int32} (hsp : ∀ i x, S[i]? = some x → sp i = x) {L : Nat} (hL2 : L ≤ 200000) : ∀ (d i m : Nat) (h : Int32) (c : Nat → Int32) (bl : Nat) (E : List Int32), i + d = S.length → d < m → MB h c bl E → E.length + d < L → bl ≤ 400000 → OUT (fun r : (Nat → Int32) × Int32 × (Nat → Int32) × Nat => r.2.2.2) (f_Md_putNumber_9 m (iI S.length) (iI i) sp h c bl) bl L (fun r => MB r.2.1 r.2.2.1 r.2.2.2 (E ++ S.drop i))
  | 0, i, m + 1, h, c, bl, E, hi, hm, hM, hl, hbl => by
    rw [f_Md_putNumber_9]
    simp (disch := omega) only [iI_lit, iL_lit, iI_add, iI_sub, iI_mul, iI_neg, iL_add, iL_sub, iL_mul, iL_neg, iI_lt, iI_le, iI_eq, iL_lt, iL_le, iL_eqS, iI_c, iI_ok, iI_l, iL_i, iI_low, l_ushrI, l_shlI, l_shrI, i_shlI, i_shrI, i_ushrI, iI_div, iL_div, Int.toNat_natCast, Int.reduceToNat, iI_ofNat]
    rw [if_pos (by omega), List.drop_eq_nil_of_le (by omega), List.append_nil]
    exact ⟨_, rfl, Nat.le_refl _, Nat.le_max_left _ _, hM⟩
  | d + 1, i, m + 1, h, c, bl, E, hi, hm, hM, hl, hbl => by
    rw [f_Md_putNumber_9]
    have hil : i < S.length := by omega
    simp (disch := omega) only [iI_lit, iL_lit, iI_add, iI_sub, iI_mul, iI_neg, iL_add, iL_sub, iL_mul, iL_neg, iI_lt, iI_le, iI_eq, iL_lt, iL_le, iL_eqS, iI_c, iI_ok, iI_l, iL_i, iI_low, l_ushrI, l_shlI, l_shrI, i_shlI, i_shrI, i_ushrI, iI_div, iL_div, Int.toNat_natCast, Int.reduceToNat, iI_ofNat]
    rw [if_neg (by omega), if_pos (by omega), hsp i _ (List.getElem?_eq_getElem hil)]
    refine OUT_bind (ρ := fun r : Int32 × (Nat → Int32) × Nat => r.2.2) (OUT_put hM (by omega) hL2 hbl _) (fun u hu h1 h2 => ?_)
    have := pn9 hS hb hsp hL2 d (i + 1) m u.1 u.2.1 u.2.2 _ (by omega) (by omega) hu (by simp; omega) (by omega)
    rw [List.append_assoc, hb _ (List.getElem_mem hil), List.singleton_append, List.getElem_cons_drop] at this
    exact this
set_option maxRecDepth 10000 in
theorem spl_b (v : Int) : ∀ x ∈ spL v, sb x = x := by
  intro x hx
  obtain ⟨i, hi⟩ := List.mem_iff_getElem?.mp hx
  rcases spl_get hi with ⟨_, _, h3⟩ | ⟨j, _, _, h3⟩
  · rw [h3]; exact sb_small (by omega) (by omega)
  · rw [h3]; exact sb_small (by omega) (by omega)
set_option maxRecDepth 10000 in
theorem spl_20 {v : Int} (hv1 : -9223372036854775808 ≤ v) (hv2 : v < 9223372036854775808) : (spL v).length ≤ 20 := by
  rw [spl_len]
  have := nd19 (A := v.natAbs) (by omega)
  unfold nd1
  split <;> split <;> omega
set_option maxRecDepth 10000 in
theorem pn_spec {v : Int} (hv1 : -9223372036854775808 ≤ v) (hv2 : v < 9223372036854775808) (sp : Nat → Int32) {L : Nat} (hL2 : L ≤ 200000) {h : Int32} {c : Nat → Int32} {bl : Nat} {E : List Int32} (hM : MB h c bl E) (hl : E.length + 20 < L) (hbl : bl ≤ 400000) : OUT (fun r : (Nat → Int32) × Int32 × (Nat → Int32) × Nat => r.2.2.2) (f_Md_putNumber (iL v) sp h c bl) bl L (fun r => MB r.2.1 r.2.2.1 r.2.2.2 (E ++ spL v)) := by
  unfold f_Md_putNumber
  refine OUT_mo ?_
  obtain ⟨sp', e, hs⟩ := spell_spec hv1 hv2 sp
  rw [e, Option.bind_some]
  have h20 := spl_20 hv1 hv2
  have := pn9 (S := spL v) (by omega) (spl_b v) hs hL2 (spL v).length 0 gx_fu h c bl E (by omega) (by have := fu_pos; omega) hM (by omega) hbl
  rw [List.drop_zero] at this
  exact this
-- W
set_option maxRecDepth 10000 in
abbrev π3 : Int32 × (Nat → Int32) × Nat → Nat := fun r => r.2.2
set_option maxRecDepth 10000 in
abbrev π4 : Int32 × (Nat → Int32) × (Nat → Int32) × Nat → Nat := fun r => r.2.2.2
set_option maxRecDepth 10000 in
def dgL (δ : Nat → Nat) (f m : Nat) : List Int32 := (List.range' f m).map (fun i : Nat => iI (48 + dg δ (i : Int)))
set_option maxRecDepth 10000 in
theorem dgL_succ (δ : Nat → Nat) (f m : Nat) : dgL δ f (m + 1) = iI (48 + dg δ (f : Int)) :: dgL δ (f + 1) m := by unfold dgL; rw [List.range'_succ]; rfl
set_option maxRecDepth 10000 in
theorem sq_dg {δ : Nat → Nat} (h : ∀ i, δ i ≤ 9) (j : Int) : sb (iI (48 + dg δ j)) = iI (48 + dg δ j) := by have := dg_b h j; exact sb_small (by omega) (by omega)
set_option maxRecDepth 10000 in
theorem pl102 {n : Nat} {dc : Nat → Int32} {δ : Nat → Nat} (hD : DL 1300 (iI n) dc n δ) {L : Nat} (hL2 : L ≤ 200000) {p f : Int} (hf0 : 0 ≤ f) (hf1 : f ≤ 1000) (pp : Int32) : ∀ (d i m : Nat) (h : Int32) (c : Nat → Int32) (bl : Nat) (E : List Int32), i + d = max n f.toNat → f.toNat ≤ i → d < m → MB h c bl E → E.length + d + 1 < L → bl ≤ 400000 → OUT π3 (f_Md_plain_102 m (iI f) (iI i) pp h (iI n) dc c bl) bl L (fun r => MB r.1 r.2.1 r.2.2 (E ++ (dgL δ i (n - i) ++ (if (n : Int) ≤ f then [iI 48] else []))))
  | 0, i, m + 1, h, c, bl, E, hi, hfi, hm, hM, hl, hbl => by
    have hn := hD.2.1
    rw [f_Md_plain_102]
    simp (disch := omega) only [iI_lit, iL_lit, iI_add, iI_sub, iI_mul, iI_neg, iL_add, iL_sub, iL_mul, iL_neg, iI_lt, iI_le, iI_eq, iL_lt, iL_le, iL_eqS, iI_c, iI_ok, iI_l, iL_i, iI_low, l_ushrI, l_shlI, l_shrI, i_shlI, i_shrI, i_ushrI, iI_div, iL_div, Int.toNat_natCast, Int.reduceToNat, iI_ofNat]
    rw [if_pos (by omega), show n - i = 0 by omega]
    have e0 : dgL δ i 0 = [] := rfl
    rw [e0, List.nil_append]
    by_cases q : f < n
    · rw [if_pos q, if_neg (by omega), List.append_nil]
      exact ⟨_, rfl, Nat.le_refl _, Nat.le_max_left _ _, hM⟩
    · rw [if_neg q, if_pos (by omega)]
      refine OUT_bind (ρ := π3) (OUT_put hM (by omega) hL2 hbl _) (fun u hu h1 h2 => ?_)
      have h2 : u.2.2 ≤ max bl (2 * L) := h2
      rw [sb_small (by omega) (by omega)] at hu
      exact ⟨_, rfl, Nat.le_refl _, Nat.le_max_left _ _, hu⟩
  | d + 1, i, m + 1, h, c, bl, E, hi, hfi, hm, hM, hl, hbl => by
    have hn := hD.2.1
    rw [f_Md_plain_102]
    simp (disch := omega) only [iI_lit, iL_lit, iI_add, iI_sub, iI_mul, iI_neg, iL_add, iL_sub, iL_mul, iL_neg, iI_lt, iI_le, iI_eq, iL_lt, iL_le, iL_eqS, iI_c, iI_ok, iI_l, iL_i, iI_low, l_ushrI, l_shlI, l_shrI, i_shlI, i_shrI, i_ushrI, iI_div, iL_div, Int.toNat_natCast, Int.reduceToNat, iI_ofNat]
    rw [if_neg (by omega), mdigit_spec hD (by omega) (by omega), Option.bind_some]
    refine OUT_bind (ρ := π3) (OUT_put hM (by omega) hL2 hbl _) (fun u hu h1 h2 => ?_)
    have h2 : u.2.2 ≤ max bl (2 * L) := h2
    rw [sq_dg hD.2.2.2.2] at hu
    have := pl102 hD hL2 (p := p) hf0 hf1 pp d (i + 1) m u.1 u.2.1 u.2.2 _ (by omega) (by omega) (by omega) hu (by simp; omega) (by omega)
    rw [show n - i = (n - (i + 1)) + 1 by omega, dgL_succ]
    rw [List.append_assoc] at this
    exact this
set_option maxRecDepth 10000 in
theorem pl62 {n : Nat} {dc : Nat → Int32} {δ : Nat → Nat} (hD : DL 1300 (iI n) dc n δ) {L : Nat} (hL2 : L ≤ 200000) {p : Int} (hp0 : -10 ≤ p) (hp1 : p ≤ 1000) : ∀ (d m : Nat) (v : Int) (h : Int32) (c : Nat → Int32) (bl : Nat) (E : List Int32), (v + d = 0 ∨ (d = 0 ∧ 0 ≤ v)) → v ≤ 1000 → d < m → MB h c bl E → E.length + d + n + 1010 < L → bl ≤ 400000 → OUT π3 (f_Md_plain_62 m (iI v) (iI p) h (iI n) dc c bl) bl L (fun r => MB r.1 r.2.1 r.2.2 (E ++ (List.replicate d (iI 48) ++ (dgL δ p.toNat (n - p.toNat) ++ (if (n : Int) ≤ max p 0 then [iI 48] else [])))))
  | 0, m + 1, v, h, c, bl, E, hv, hv2, hm, hM, hl, hbl => by
    have hn := hD.2.1
    rw [f_Md_plain_62]
    unfold f_Md_plain_99
    simp (disch := omega) only [iI_lit, iL_lit, iI_add, iI_sub, iI_mul, iI_neg, iL_add, iL_sub, iL_mul, iL_neg, iI_lt, iI_le, iI_eq, iL_lt, iL_le, iL_eqS, iI_c, iI_ok, iI_l, iL_i, iI_low, l_ushrI, l_shlI, l_shrI, i_shlI, i_shrI, i_ushrI, iI_div, iL_div, Int.toNat_natCast, Int.reduceToNat, iI_ofNat]
    rw [if_pos (by omega), List.replicate_zero, List.nil_append]
    by_cases q : 0 ≤ p
    · rw [if_pos q]
      have := pl102 hD hL2 (p := p) (f := p) q hp1 (iI p) (max n p.toNat - p.toNat) p.toNat gx_fu h c bl E (by omega) (by omega) (by have := fu_pos; omega) hM (by omega) hbl
      rw [Int.toNat_of_nonneg q] at this
      rw [show max p 0 = p by omega]
      exact this
    · rw [if_neg q]
      have := pl102 hD hL2 (p := p) (f := 0) (by omega) (by omega) (iI p) (max n 0 - 0) 0 gx_fu h c bl E (by simp) (by simp) (by have := fu_pos; omega) hM (by omega) hbl
      rw [show p.toNat = 0 by omega, show max p 0 = 0 by omega]
      exact this
  | d + 1, m + 1, v, h, c, bl, E, hv, hv2, hm, hM, hl, hbl => by
    rw [f_Md_plain_62]
    simp (disch := omega) only [iI_lit, iL_lit, iI_add, iI_sub, iI_mul, iI_neg, iL_add, iL_sub, iL_mul, iL_neg, iI_lt, iI_le, iI_eq, iL_lt, iL_le, iL_eqS, iI_c, iI_ok, iI_l, iL_i, iI_low, l_ushrI, l_shlI, l_shrI, i_shlI, i_shrI, i_ushrI, iI_div, iL_div, Int.toNat_natCast, Int.reduceToNat, iI_ofNat]
    rw [if_neg (by omega)]
    refine OUT_bind (ρ := π3) (OUT_put hM (by omega) hL2 hbl _) (fun u hu h1 h2 => ?_)
    have h2 : u.2.2 ≤ max bl (2 * L) := h2
    rw [sb_small (by omega) (by omega)] at hu
    have := pl62 hD hL2 hp0 hp1 d m (v + 1) u.1 u.2.1 u.2.2 _ (by omega) (by omega) (by omega) hu (by simp; omega) (by omega)
    rw [List.append_assoc] at this
    rw [List.replicate_succ]
    exact this
set_option maxRecDepth 10000 in
def plainE (δ : Nat → Nat) (p : Int) (n : Nat) : List Int32 := (if p < 1 then [iI 48] else []) ++ (dgL δ 0 p.toNat ++ ([iI 46] ++ (List.replicate (-p).toNat (iI 48) ++ (dgL δ p.toNat (n - p.toNat) ++ (if (n : Int) ≤ max p 0 then [iI 48] else [])))))
set_option maxRecDepth 10000 in
theorem pl19 {n : Nat} {dc : Nat → Int32} {δ : Nat → Nat} (hD : DL 1300 (iI n) dc n δ) {L : Nat} (hL2 : L ≤ 200000) {p : Int} (hp0 : -10 ≤ p) (hp1 : p ≤ 1000) : ∀ (d i m : Nat) (h : Int32) (c : Nat → Int32) (bl : Nat) (E : List Int32), i + d = p.toNat → d < m → MB h c bl E → E.length + d + n + 1030 < L → bl ≤ 400000 → OUT π3 (f_Md_plain_19 m (iI i) (iI p) h (iI n) dc c bl) bl L (fun r => MB r.1 r.2.1 r.2.2 (E ++ (dgL δ i d ++ ([iI 46] ++ (List.replicate (-p).toNat (iI 48) ++ (dgL δ p.toNat (n - p.toNat) ++ (if (n : Int) ≤ max p 0 then [iI 48] else [])))))))
  | 0, i, m + 1, h, c, bl, E, hi, hm, hM, hl, hbl => by
    rw [f_Md_plain_19]
    simp (disch := omega) only [iI_lit, iL_lit, iI_add, iI_sub, iI_mul, iI_neg, iL_add, iL_sub, iL_mul, iL_neg, iI_lt, iI_le, iI_eq, iL_lt, iL_le, iL_eqS, iI_c, iI_ok, iI_l, iL_i, iI_low, l_ushrI, l_shlI, l_shrI, i_shlI, i_shrI, i_ushrI, iI_div, iL_div, Int.toNat_natCast, Int.reduceToNat, iI_ofNat]
    rw [if_pos (by omega)]
    refine OUT_bind (ρ := π3) (OUT_put hM (by omega) hL2 hbl _) (fun u hu h1 h2 => ?_)
    have h2 : u.2.2 ≤ max bl (2 * L) := h2
    rw [sb_small (by omega) (by omega)] at hu
    have := pl62 hD hL2 hp0 hp1 (-p).toNat gx_fu p u.1 u.2.1 u.2.2 _ (by omega) (by omega) (by have := fu_pos; omega) hu (by simp; omega) (by omega)
    rw [List.append_assoc] at this
    exact this
  | d + 1, i, m + 1, h, c, bl, E, hi, hm, hM, hl, hbl => by
    rw [f_Md_plain_19]
    simp (disch := omega) only [iI_lit, iL_lit, iI_add, iI_sub, iI_mul, iI_neg, iL_add, iL_sub, iL_mul, iL_neg, iI_lt, iI_le, iI_eq, iL_lt, iL_le, iL_eqS, iI_c, iI_ok, iI_l, iL_i, iI_low, l_ushrI, l_shlI, l_shrI, i_shlI, i_shrI, i_ushrI, iI_div, iL_div, Int.toNat_natCast, Int.reduceToNat, iI_ofNat]
    rw [if_neg (by omega), mdigit_spec hD (by omega) (by omega), Option.bind_some]
    refine OUT_bind (ρ := π3) (OUT_put hM (by omega) hL2 hbl _) (fun u hu h1 h2 => ?_)
    have h2 : u.2.2 ≤ max bl (2 * L) := h2
    rw [sq_dg hD.2.2.2.2] at hu
    have := pl19 hD hL2 hp0 hp1 d (i + 1) m u.1 u.2.1 u.2.2 _ (by omega) (by omega) hu (by simp; omega) (by omega)
    rw [dgL_succ]
    rw [List.append_assoc] at this
    exact this
set_option maxRecDepth 10000 in
theorem plain_spec {n : Nat} {dc : Nat → Int32} {δ : Nat → Nat} (hD : DL 1300 (iI n) dc n δ) {L : Nat} (hL2 : L ≤ 200000) {p : Int} (hp0 : -10 ≤ p) (hp1 : p ≤ 1000) {h : Int32} {c : Nat → Int32} {bl : Nat} {E : List Int32} (hM : MB h c bl E) (hl : E.length + n + 2050 < L) (hbl : bl ≤ 400000) : OUT π3 (f_Md_plain (iI p) h (iI n) dc c bl) bl L (fun r => MB r.1 r.2.1 r.2.2 (E ++ plainE δ p n)) := by
  unfold f_Md_plain f_Md_plain_17 plainE
  refine OUT_mo ?_
  simp (disch := omega) only [iI_lit, iL_lit, iI_add, iI_sub, iI_mul, iI_neg, iL_add, iL_sub, iL_mul, iL_neg, iI_lt, iI_le, iI_eq, iL_lt, iL_le, iL_eqS, iI_c, iI_ok, iI_l, iL_i, iI_low, l_ushrI, l_shlI, l_shrI, i_shlI, i_shrI, i_ushrI, iI_div, iL_div, Int.toNat_natCast, Int.reduceToNat, iI_ofNat]
  by_cases q : 1 ≤ p
  · rw [if_pos q, if_neg (by omega), List.nil_append]
    exact pl19 hD hL2 hp0 hp1 p.toNat 0 gx_fu h c bl E (by omega) (by have := fu_pos; omega) hM (by omega) hbl
  · rw [if_neg q, if_pos (by omega)]
    refine OUT_bind (ρ := π3) (OUT_put hM (by omega) hL2 hbl _) (fun u hu h1 h2 => ?_)
    have h2 : u.2.2 ≤ max bl (2 * L) := h2
    rw [sb_small (by omega) (by omega)] at hu
    have := pl19 hD hL2 hp0 hp1 p.toNat 0 gx_fu u.1 u.2.1 u.2.2 _ (by omega) (by have := fu_pos; omega) hu (by simp; omega) (by omega)
    rw [List.append_assoc] at this
    exact this
-- W2
set_option maxRecDepth 10000 in
theorem pw66 {n : Nat} {dc : Nat → Int32} {δ : Nat → Nat} (hD : DL 1300 (iI n) dc n δ) {L : Nat} (hL2 : L ≤ 200000) {p : Int} (hp0 : -1000 ≤ p) (hp1 : p ≤ 1000) (sp : Nat → Int32) {h : Int32} {c : Nat → Int32} {bl : Nat} {E : List Int32} (hM : MB h c bl E) (hl : E.length + 30 < L) (hbl : bl ≤ 400000) : OUT π4 (f_Md_powered_66 (iI n) dc h (iI p) sp c bl) bl L (fun r => MB r.1 r.2.2.1 r.2.2.2 (E ++ ([iI 69] ++ spL (p - 1)))) := by
  unfold f_Md_powered_66
  simp (disch := omega) only [iI_lit, iL_lit, iI_add, iI_sub, iI_mul, iI_neg, iL_add, iL_sub, iL_mul, iL_neg, iI_lt, iI_le, iI_eq, iL_lt, iL_le, iL_eqS, iI_c, iI_ok, iI_l, iL_i, iI_low, l_ushrI, l_shlI, l_shrI, i_shlI, i_shrI, i_ushrI, iI_div, iL_div, Int.toNat_natCast, Int.reduceToNat, iI_ofNat]
  refine OUT_bind (ρ := π3) (π := π4) (OUT_put hM (by omega) hL2 hbl _) (fun u hu h1 h2 => ?_)
  have h2 : u.2.2 ≤ max bl (2 * L) := h2
  rw [sb_small (by omega) (by omega)] at hu
  refine OUT_bind (ρ := fun r : (Nat → Int32) × Int32 × (Nat → Int32) × Nat => r.2.2.2) (π := π4) (pn_spec (v := p - 1) (by omega) (by omega) sp hL2 hu (by simp; omega) (by omega)) (fun w hw g1 g2 => ?_)
  rw [List.append_assoc] at hw
  exact ⟨_, rfl, Nat.le_refl _, Nat.le_max_left _ _, hw⟩
set_option maxRecDepth 10000 in
theorem pw20 {n : Nat} {dc : Nat → Int32} {δ : Nat → Nat} (hD : DL 1300 (iI n) dc n δ) {L : Nat} (hL2 : L ≤ 200000) {p : Int} (hp0 : -1000 ≤ p) (hp1 : p ≤ 1000) (hn1 : 1 ≤ n) (sp : Nat → Int32) : ∀ (d i m : Nat) (h : Int32) (c : Nat → Int32) (bl : Nat) (E : List Int32), i + d = n → 1 ≤ i → d < m → MB h c bl E → E.length + d + 40 < L → bl ≤ 400000 → OUT π4 (f_Md_powered_20 m (iI i) (iI n) dc h (iI p) sp c bl) bl L (fun r => MB r.1 r.2.2.1 r.2.2.2 (E ++ (dgL δ i d ++ ((if n = 1 then [iI 48] else []) ++ ([iI 69] ++ spL (p - 1))))))
  | 0, i, m + 1, h, c, bl, E, hi, hi1, hm, hM, hl, hbl => by
    have hn := hD.2.1
    rw [f_Md_powered_20]
    simp (disch := omega) only [iI_lit, iL_lit, iI_add, iI_sub, iI_mul, iI_neg, iL_add, iL_sub, iL_mul, iL_neg, iI_lt, iI_le, iI_eq, iL_lt, iL_le, iL_eqS, iI_c, iI_ok, iI_l, iL_i, iI_low, l_ushrI, l_shlI, l_shrI, i_shlI, i_shrI, i_ushrI, iI_div, iL_div, Int.toNat_natCast, Int.reduceToNat, iI_ofNat]
    have e0 : dgL δ i 0 = [] := rfl
    rw [if_pos (by omega), e0, List.nil_append]
    by_cases q : n = 1
    · rw [if_pos (show (n : Int) = 1 by omega), if_pos q]
      refine OUT_bind (ρ := π3) (π := π4) (OUT_put hM (by omega) hL2 hbl _) (fun u hu h1 h2 => ?_)
      have h2 : u.2.2 ≤ max bl (2 * L) := h2
      rw [sb_small (by omega) (by omega)] at hu
      have := pw66 hD hL2 hp0 hp1 sp hu (by simp; omega) (by omega)
      rw [List.append_assoc] at this
      exact this
    · rw [if_neg (show ¬ (n : Int) = 1 by omega), if_neg q, List.nil_append]
      exact pw66 hD hL2 hp0 hp1 sp hM (by omega) hbl
  | d + 1, i, m + 1, h, c, bl, E, hi, hi1, hm, hM, hl, hbl => by
    have hn := hD.2.1
    rw [f_Md_powered_20]
    simp (disch := omega) only [iI_lit, iL_lit, iI_add, iI_sub, iI_mul, iI_neg, iL_add, iL_sub, iL_mul, iL_neg, iI_lt, iI_le, iI_eq, iL_lt, iL_le, iL_eqS, iI_c, iI_ok, iI_l, iL_i, iI_low, l_ushrI, l_shlI, l_shrI, i_shlI, i_shrI, i_ushrI, iI_div, iL_div, Int.toNat_natCast, Int.reduceToNat, iI_ofNat]
    rw [if_neg (by omega), mdigit_spec hD (by omega) (by omega), Option.bind_some]
    refine OUT_bind (ρ := π3) (π := π4) (OUT_put hM (by omega) hL2 hbl _) (fun u hu h1 h2 => ?_)
    have h2 : u.2.2 ≤ max bl (2 * L) := h2
    rw [sq_dg hD.2.2.2.2] at hu
    have := pw20 hD hL2 hp0 hp1 hn1 sp d (i + 1) m u.1 u.2.1 u.2.2 _ (by omega) (by omega) (by omega) hu (by simp; omega) (by omega)
    rw [dgL_succ]
    rw [List.append_assoc] at this
    exact this
set_option maxRecDepth 10000 in
def powE (δ : Nat → Nat) (p : Int) (n : Nat) : List Int32 := [iI (48 + dg δ 0)] ++ ([iI 46] ++ (dgL δ 1 (n - 1) ++ ((if n = 1 then [iI 48] else []) ++ ([iI 69] ++ spL (p - 1)))))
set_option maxRecDepth 10000 in
theorem pow_spec {n : Nat} {dc : Nat → Int32} {δ : Nat → Nat} (hD : DL 1300 (iI n) dc n δ) {L : Nat} (hL2 : L ≤ 200000) {p : Int} (hp0 : -1000 ≤ p) (hp1 : p ≤ 1000) (hn1 : 1 ≤ n) (sp : Nat → Int32) {h : Int32} {c : Nat → Int32} {bl : Nat} {E : List Int32} (hM : MB h c bl E) (hl : E.length + n + 50 < L) (hbl : bl ≤ 400000) : OUT π4 (f_Md_powered (iI n) dc h (iI p) sp c bl) bl L (fun r => MB r.1 r.2.2.1 r.2.2.2 (E ++ powE δ p n)) := by
  unfold f_Md_powered powE
  refine OUT_mo ?_
  simp (disch := omega) only [iI_lit, iL_lit, iI_add, iI_sub, iI_mul, iI_neg, iL_add, iL_sub, iL_mul, iL_neg, iI_lt, iI_le, iI_eq, iL_lt, iL_le, iL_eqS, iI_c, iI_ok, iI_l, iL_i, iI_low, l_ushrI, l_shlI, l_shrI, i_shlI, i_shrI, i_ushrI, iI_div, iL_div, Int.toNat_natCast, Int.reduceToNat, iI_ofNat]
  rw [mdigit_spec hD (by omega) (by omega), Option.bind_some]
  refine OUT_bind (ρ := π3) (π := π4) (OUT_put hM (by omega) hL2 hbl _) (fun u hu h1 h2 => ?_)
  have h2 : u.2.2 ≤ max bl (2 * L) := h2
  rw [sq_dg hD.2.2.2.2] at hu
  refine OUT_bind (ρ := π3) (π := π4) (OUT_put hu (by simp; omega) hL2 (by omega) _) (fun v hv g1 g2 => ?_)
  have g2 : v.2.2 ≤ max u.2.2 (2 * L) := g2
  rw [sb_small (by omega) (by omega)] at hv
  have := pw20 hD hL2 hp0 hp1 hn1 sp (n - 1) 1 gx_fu v.1 v.2.1 v.2.2 _ (by omega) (by omega) (by have := fu_pos; have := hD.2.1; omega) hv (by simp; omega) (by omega)
  rw [List.append_assoc, List.append_assoc] at this
  exact this
set_option maxRecDepth 10000 in
theorem digE_dgL (δ : Nat → Nat) (f m : Nat) : digE δ (f : Int) m = dgL δ f m := by
  unfold digE dgL
  apply List.ext_getElem?
  intro j
  rw [List.getElem?_map, List.getElem?_map]
  by_cases h : j < m
  · rw [List.getElem?_range' h, List.getElem?_range' h]
    simp
  · rw [List.getElem?_eq_none (by simp; omega), List.getElem?_eq_none (by simp; omega)]
    rfl
set_option maxRecDepth 10000 in
theorem dgL_app (δ : Nat → Nat) (f a b : Nat) : dgL δ f (a + b) = dgL δ f a ++ dgL δ (f + a) b := by
  unfold dgL
  rw [← List.map_append]
  congr 1
  have := List.range'_append (s := f) (m := a) (n := b) (step := 1)
  rw [Nat.one_mul] at this
  exact this.symm
set_option maxRecDepth 10000 in
theorem num_spl {v : Int} (h0 : 0 ≤ v) (h1 : v < 10000) : numE v 1 = (List.range' 0 (nd1 v.natAbs)).map (fun i : Nat => iI (48 + (v.natAbs / 10 ^ (nd1 v.natAbs - 1 - i) % 10 : Nat))) := by
  obtain ⟨a, rfl⟩ : ∃ a : Nat, v = a := ⟨v.toNat, by omega⟩
  rw [Int.natAbs_natCast]
  unfold numE numAt
  have hd : ∀ k : Nat, 0 < a → 10 ^ (k - 1) ≤ a → a < 10 ^ k → nd1 a = k := by
    intro k q1 q2 q3
    unfold nd1; rw [if_neg (by omega)]; exact nd_uniq q1 q3 q2
  by_cases c1 : a < 10
  · have e : nd1 a = 1 := by
      by_cases z : a = 0
      · unfold nd1; rw [if_pos z]
      · exact hd 1 (by omega) (by simp; omega) (by simpa using c1)
    rw [if_neg (by omega), if_neg (by omega), if_neg (by omega), if_pos (by omega), e]
    simp [List.range'_succ]
  · by_cases c2 : a < 100
    · have e : nd1 a = 2 := hd 2 (by omega) (by simp; omega) (by show a < 100; omega)
      rw [if_neg (by omega), if_neg (by omega), if_pos (by omega), if_pos (by omega), e]
      simp [List.range'_succ]
    · by_cases c3 : a < 1000
      · have e : nd1 a = 3 := hd 3 (by omega) (by show 100 ≤ a; omega) (by show a < 1000; omega)
        rw [if_neg (by omega), if_pos (by omega), if_pos (by omega), if_pos (by omega), e]
        simp [List.range'_succ]
      · have e : nd1 a = 4 := hd 4 (by omega) (by show 1000 ≤ a; omega) (by show a < 10000; omega)
        rw [if_pos (by omega), if_pos (by omega), if_pos (by omega), if_pos (by omega), e]
        simp [List.range'_succ]
set_option maxRecDepth 10000 in
theorem flat_one {α β : Type} (f : α → β) : ∀ l : List α, l.flatMap (fun x => [f x]) = l.map f
  | [] => rfl
  | a :: l => by rw [List.flatMap_cons, List.map_cons, flat_one f l]; rfl
set_option maxRecDepth 10000 in
theorem whole_F (δ : Nat → Nat) (p : Int) : wholeE δ p False = (List.range' 0 (max p 1).toNat).map (fun i : Nat => iI (48 + dg δ ((i : Int) + p - max p 1))) := by
  unfold wholeE
  rw [← flat_one]
  have : (wholeAt δ p False (max p 1)) = fun i : Nat => [iI (48 + dg δ ((i : Int) + p - max p 1))] := by
    funext i
    unfold wholeAt
    rw [if_neg (by simp), List.nil_append]
  rw [this]
set_option maxRecDepth 10000 in
theorem dg_neg {δ : Nat → Nat} {j : Int} (h : j < 0) : dg δ j = 0 := by unfold dg; rw [if_neg (by omega)]
set_option maxRecDepth 10000 in
theorem dg_out {δ : Nat → Nat} {t : Nat} (hz : ∀ i, t ≤ i → δ i = 0) {j : Int} (h : (t : Int) ≤ j) : dg δ j = 0 := by unfold dg; rw [if_pos (by omega), hz _ (by omega)]; rfl
set_option maxRecDepth 10000 in
theorem dec_eq {δ : Nat → Nat} {t : Nat} (ht : 1 ≤ t) (hz : ∀ i, t ≤ i → δ i = 0) {p : Int} (hp0 : -1000 ≤ p) (hp1 : p ≤ 1000) : decE δ p t = if p < -2 ∨ 7 < p then powE δ p t else plainE δ p t := by
  unfold decE
  by_cases h : p < -2 ∨ 7 < p
  · rw [if_pos h, if_pos h]
    unfold powE
    have e1 : digE δ 0 1 = [iI (48 + dg δ 0)] := by
      have := digE_dgL δ 0 1
      rw [show ((0 : Nat) : Int) = 0 from rfl] at this
      rw [this, dgL_succ]; rfl
    have e2 : digE δ 1 (max ((t : Int) - 1) 1).toNat = dgL δ 1 (t - 1) ++ (if t = 1 then [iI 48] else []) := by
      have := digE_dgL δ 1 (max ((t : Int) - 1) 1).toNat
      rw [show ((1 : Nat) : Int) = 1 from rfl] at this
      rw [this]
      by_cases q : t = 1
      · subst q
        rw [if_pos rfl, show (max (((1 : Nat) : Int) - 1) 1).toNat = 0 + 1 by omega, dgL_succ, dg_out hz (by omega)]
        rfl
      · rw [if_neg q, List.append_nil, show (max ((t : Int) - 1) 1).toNat = t - 1 by omega]
    have e3 : gl_byt.getD (if p ≤ 0 then 4 else 3) [] ++ numE (p - 1).natAbs 1 = [iI 69] ++ spL (p - 1) := by
      rw [num_spl (by omega) (by omega)]
      unfold spL
      rw [Int.natAbs_natCast]
      by_cases q : p ≤ 0
      · rw [if_pos q, if_pos (by omega)]
        have : gl_byt.getD 4 [] = [iI 69, iI 45] := by decide +kernel
        rw [this]; rfl
      · rw [if_neg q, if_neg (by omega)]
        have : gl_byt.getD 3 [] = [iI 69] := by decide +kernel
        rw [this]; rfl
    rw [e1, e2, e3]
    simp only [List.append_assoc]
  · rw [if_neg h, if_neg h]
    unfold plainE
    rw [whole_F]
    by_cases q : 1 ≤ p
    · rw [if_neg (by omega), List.nil_append]
      have e1 : (List.range' 0 (max p 1).toNat).map (fun i : Nat => iI (48 + dg δ ((i : Int) + p - max p 1))) = dgL δ 0 p.toNat := by
        unfold dgL
        rw [show max p 1 = p by omega]
        congr 1
        funext i
        rw [show (i : Int) + p - p = i by omega]
      have e2 : digE δ p (max ((t : Int) - p) 1).toNat = dgL δ p.toNat (t - p.toNat) ++ (if (t : Int) ≤ max p 0 then [iI 48] else []) := by
        have := digE_dgL δ p.toNat (max ((t : Int) - p) 1).toNat
        rw [Int.toNat_of_nonneg (by omega)] at this
        rw [this]
        by_cases r : (t : Int) ≤ p
        · rw [if_pos (by omega), show (max ((t : Int) - p) 1).toNat = 0 + 1 by omega, dgL_succ, show t - p.toNat = 0 by omega, dg_out hz (by omega)]
          rfl
        · rw [if_neg (by omega), List.append_nil, show (max ((t : Int) - p) 1).toNat = t - p.toNat by omega]
      rw [e1, e2, show (-p).toNat = 0 by omega, List.replicate_zero, List.nil_append]
    · rw [if_pos (by omega), show max p 1 = 1 by omega, show p.toNat = 0 by omega, if_neg (by omega), List.append_nil]
      have e1 : (List.range' 0 (1 : Int).toNat).map (fun i : Nat => iI (48 + dg δ ((i : Int) + p - 1))) = [iI 48] := by
        show [iI (48 + dg δ (((0 : Nat) : Int) + p - 1))] = _
        rw [dg_neg (by omega)]; rfl
      have e2 : digE δ p (max ((t : Int) - p) 1).toNat = List.replicate (-p).toNat (iI 48) ++ dgL δ 0 (t - 0) := by
        unfold digE dgL
        apply List.ext_getElem?
        intro j
        rw [List.getElem?_map]
        by_cases r : j < (max ((t : Int) - p) 1).toNat
        · rw [List.getElem?_range' r]
          simp only [Option.map_some]
          by_cases r2 : j < (-p).toNat
          · rw [List.getElem?_append_left (by simpa using r2), List.getElem?_replicate, if_pos r2, dg_neg (by omega)]; rfl
          · rw [List.getElem?_append_right (by simp; omega), List.length_replicate, List.getElem?_map, List.getElem?_range' (by omega)]
            simp only [Option.map_some]
            congr 4
            omega
        · rw [List.getElem?_eq_none (by simp; omega), List.getElem?_eq_none (by simp; omega)]
          rfl
      rw [e1, e2]
      rfl
-- X
set_option maxRecDepth 10000 in
abbrev PrT := Int32 × Int32 × (Nat → Int32) × (Nat → Int64) × Int32 × (Nat → Int32) × Int32 × (Nat → Int32) × Int32 × Int32 × (Nat → Int32) × Int32 × Int32 × (Nat → Int32) × Int32 × Int32 × Int32 × Int32 × (Nat → Int32) × (Nat → Int32) × Nat
set_option maxRecDepth 10000 in
abbrev π21 : PrT → Nat := fun r => r.2.2.2.2.2.2.2.2.2.2.2.2.2.2.2.2.2.2.2.2
set_option maxRecDepth 10000 in
def MBr (r : PrT) (E : List Int32) : Prop := MB r.2.2.2.2.2.2.2.2.2.2.2.2.2.2.2.2.2.1 r.2.2.2.2.2.2.2.2.2.2.2.2.2.2.2.2.2.2.2.1 r.2.2.2.2.2.2.2.2.2.2.2.2.2.2.2.2.2.2.2.2 E
set_option maxRecDepth 10000 in
theorem short_P {c q w ev Df P : Int} (hc : 0 < c) (h : isShortN c q w ev Df P) : 0 < Df ∧ -1000 ≤ P ∧ P ≤ 1000 ∧ nd Df.natAbs ≤ 19 := by
  obtain ⟨p, N, h1, h2, h3, h4, h5, h6, h7, h8, h9, h10⟩ := h
  have hX : 0 < 4 * c * gq (q - 2) := Int.mul_pos (by omega) (gq_pos _)
  have hu := p10_pos (p + 2000).toNat
  have hb := sDb hu h1 N
  have hp := fin_pos (ev := ev) (U := 0) (W := 0) hu hX h2 (show 1 ≤ N by omega)
  have hm := p10I_mono (show N ≤ 18 by omega)
  have h18 : (10 : Int) ^ 18 = 1000000000000000000 := rfl
  have hD : 0 < Df ∧ Df ≤ 1000000000000000000 := by
    rw [h7]; unfold finN
    have key : ∀ (A : Prop) [Decidable A] (D : Int), 0 < D → D < 10 ^ N → 0 < D + (if A then 1 else 0) ∧ D + (if A then 1 else 0) ≤ 1000000000000000000 := by
      intro A _ D g1 g2
      by_cases r : A
      · rw [if_pos r]; omega
      · rw [if_neg r]; omega
    exact key _ _ hp hb
  have hn : nd Df.natAbs ≤ 19 := nd_le_of (by show Df.natAbs < 10000000000000000000; omega)
  exact ⟨hD.1, by omega, by omega, hn⟩
set_option maxRecDepth 10000 in
def shN (s : Nat) (z : Int) (F : List Int32) : Prop := if z = (2 ^ szK s - 1) * 2 ^ (szD s - 1) then F = litL 1 else if z = 0 then F = litL 2 else
  ∃ (Df P : Int) (t : Nat), isShortN (mC s z) (mQ s z) (if mC s z = 2 ^ (szD s - 1) ∧ szL s < mQ s z then 1 else 2) (if mC s z % 2 = 0 then 1 else 0) Df P ∧ isStrip (digF Df.natAbs) t ∧ F = decE (digF Df.natAbs) P t
set_option maxRecDepth 10000 in
theorem inf_spec {s : Nat} (hs : s < 2) : f_Md_infinity (iI (szD s)) = some (iL ((2 ^ szK s - 1) * 2 ^ (szD s - 1))) := by
  have : s = 0 ∨ s = 1 := by omega
  rcases this with rfl | rfl
  · decide +kernel
  · decide +kernel
set_option maxRecDepth 10000 in
theorem inf_b {s : Nat} (hs : s < 2) : 0 < ((2 : Int) ^ szK s - 1) * 2 ^ (szD s - 1) ∧ ((2 : Int) ^ szK s - 1) * 2 ^ (szD s - 1) < 9223372036854775808 := by
  have : s = 0 ∨ s = 1 := by omega
  rcases this with rfl | rfl <;> decide +kernel
set_option maxRecDepth 10000 in
theorem pr62 {s : Nat} (hs : s < 2) {z : Int} (h0 : 0 ≤ z) (hz : z ≤ (2 ^ szK s - 1) * 2 ^ (szD s - 1)) {L : Nat} (hL2 : L ≤ 200000) {h : Int32} {c : Nat → Int32} {bl : Nat} {E : List Int32} (hM : MB h c bl E) (hl : E.length + 5000 < L) (hbl : bl ≤ 400000) (us rn0 rn1 rn2 rp0 rp1 rp2 dn dp un up_ : Int32) (d0 d1 d2 dc uc sp : Nat → Int32) (lc : Nat → Int64) :
    ∃ F, shN s z F ∧ OUT π21 (f_Md_printed_62 (iL z) (iI (szD s)) (iI (szL s)) us rn0 d0 lc rn1 d1 rn2 d2 rp0 dn dc dp un uc up_ rp2 rp1 h sp c bl) bl L (fun r => MBr r (E ++ F)) := by
  obtain ⟨ib0, ib1⟩ := inf_b hs
  unfold f_Md_printed_62 f_Md_printed_131 shN
  rw [inf_spec hs, Option.bind_some]
  simp (disch := omega) only [iI_lit, iL_lit, iI_add, iI_sub, iI_mul, iI_neg, iL_add, iL_sub, iL_mul, iL_neg, iI_lt, iI_le, iI_eq, iL_lt, iL_le, iL_eqS, iI_c, iI_ok, iI_l, iL_i, iI_low, l_ushrI, l_shlI, l_shrI, i_shlI, i_shrI, i_ushrI, iI_div, iL_div, Int.toNat_natCast, Int.reduceToNat, iI_ofNat]
  by_cases hi : z = (2 ^ szK s - 1) * 2 ^ (szD s - 1)
  · rw [if_pos hi]
    refine ⟨litL 1, by rw [if_pos hi], ?_⟩
    have hlit : litL 46 = litL 1 := by decide +kernel
    have hlen : gl_len.getD 46 0 = 8 := rfl
    refine OUT_bind (ρ := π3) (π := π21) (OUT_of (put2_spec (o := 46) (by omega) hL2 hM (by rw [hlen]; omega) hbl)) (fun u hu h1 h2 => ?_)
    rw [hlit] at hu
    exact ⟨_, rfl, Nat.le_refl _, Nat.le_max_left _ _, hu⟩
  · rw [if_neg hi]
    by_cases hz0 : z = 0
    · rw [if_pos hz0]
      refine ⟨litL 2, by rw [if_neg hi, if_pos hz0], ?_⟩
      have hlit : litL 47 = litL 2 := by decide +kernel
      have hlen : gl_len.getD 47 0 = 3 := rfl
      refine OUT_bind (ρ := π3) (π := π21) (OUT_of (put2_spec (o := 47) (by omega) hL2 hM (by rw [hlen]; omega) hbl)) (fun u hu h1 h2 => ?_)
      rw [hlit] at hu
      exact ⟨_, rfl, Nat.le_refl _, Nat.le_max_left _ _, hu⟩
    · rw [if_neg hz0]
      have hx : z / 2 ^ (szD s - 1) ≤ szG s - szL s + 1 := by
        have hlt : z / 2 ^ (szD s - 1) < 2 ^ szK s - 1 := by
          apply Int.ediv_lt_of_lt_mul (p2_pos _)
          omega
        rcases sz_cases hs with r | r
        · obtain ⟨_, _, r2, r3, _, r4⟩ := r
          rw [r4] at hlt; rw [r2, r3]
          have : (2 : Int) ^ 11 = 2048 := rfl
          omega
        · obtain ⟨_, _, r2, r3, _, r4⟩ := r
          rw [r4] at hlt; rw [r2, r3]
          have : (2 : Int) ^ 8 = 256 := rfl
          omega
      obtain ⟨Df, P, hsh, y, e, t, y1, y2, y3, y4⟩ := mshort_spec hs (z := z) (by omega) (by omega) hx us rn0 rn1 rn2 rp0 rp1 rp2 dn dp un up_ d0 d1 d2 dc uc lc
      rw [e, Option.bind_some]
      obtain ⟨hD0, hP0, hP1, hnd⟩ := short_P (mC_b hs (by omega)).1 hsh
      have ht1 : 1 ≤ t := by
        rcases Nat.eq_zero_or_pos t with r | r
        · exact absurd (y3.1 0 (by omega)) (digF_0 (by omega))
        · exact r
      have htn : t ≤ 19 := by have := strip_le y3; omega
      refine ⟨decE (digF Df.natAbs) P t, by rw [if_neg hi, if_neg hz0]; exact ⟨Df, P, t, hsh, y3, rfl⟩, ?_⟩
      rw [dec_eq ht1 y3.1 hP0 hP1, y1, y4]
      simp (disch := omega) only [iI_lit, iL_lit, iI_add, iI_sub, iI_mul, iI_neg, iL_add, iL_sub, iL_mul, iL_neg, iI_lt, iI_le, iI_eq, iL_lt, iL_le, iL_eqS, iI_c, iI_ok, iI_l, iL_i, iI_low, l_ushrI, l_shlI, l_shrI, i_shlI, i_shrI, i_ushrI, iI_div, iL_div, Int.toNat_natCast, Int.reduceToNat, iI_ofNat]
      have wp : OUT π21 ((f_Md_powered (iI t) y.2.2.2.2.2.2.2.2.2.2.1 h (iI P) sp c bl).bind fun u132 => gx_mo (fun r : PrT => r.2.2.2.2.2.2.2.2.2.2.2.2.2.2.2.2.2.2.2.2) u132.2.2.2 (if bl ≤ u132.2.2.2 then some (y.1, y.2.1, y.2.2.1, y.2.2.2.1, y.2.2.2.2.1, y.2.2.2.2.2.1, y.2.2.2.2.2.2.1, y.2.2.2.2.2.2.2.1, y.2.2.2.2.2.2.2.2.1, iI t, y.2.2.2.2.2.2.2.2.2.2.1, iI P, y.2.2.2.2.2.2.2.2.2.2.2.2.1, y.2.2.2.2.2.2.2.2.2.2.2.2.2.1, y.2.2.2.2.2.2.2.2.2.2.2.2.2.2.1, y.2.2.2.2.2.2.2.2.2.2.2.2.2.2.2.1, y.2.2.2.2.2.2.2.2.2.2.2.2.2.2.2.2, u132.1, u132.2.1, u132.2.2.1, u132.2.2.2) else none)) bl L (fun r => MBr r (E ++ powE (digF Df.natAbs) P t)) := by
        refine OUT_bind (ρ := π4) (π := π21) (pow_spec y2 hL2 hP0 hP1 ht1 sp hM (by omega) hbl) (fun u hu h1 h2 => ?_)
        exact ⟨_, rfl, Nat.le_refl _, Nat.le_max_left _ _, hu⟩
      by_cases q1 : P < -2
      · rw [if_pos q1, if_pos (Or.inl q1)]; exact wp
      · rw [if_neg q1]
        by_cases q2 : 7 < P
        · rw [if_pos q2, if_pos (Or.inr q2)]; exact wp
        · rw [if_neg q2, if_neg (by omega)]
          refine OUT_bind (ρ := π3) (π := π21) (plain_spec y2 hL2 (by omega) hP1 hM (by omega) hbl) (fun u hu h1 h2 => ?_)
          exact ⟨_, rfl, Nat.le_refl _, Nat.le_max_left _ _, hu⟩
-- Y
set_option maxRecDepth 10000 in
theorem and_m1 (x : Int64) : x &&& iL (-1) = x := by
  apply Int64.toBitVec_inj.mp
  rw [Int64.toBitVec_and]
  have : (iL (-1)).toBitVec = BitVec.allOnes 64 := by decide +kernel
  rw [this, BitVec.and_allOnes]
set_option maxRecDepth 10000 in
theorem and_bit {u : Int} (h0 : 0 ≤ u) (h1 : u < 18446744073709551616) {S : Nat} (hS : S < 64) : (iL u &&& iL (2 ^ S) = iL 0) = (u / 2 ^ S % 2 = 0) := by
  obtain ⟨a, rfl⟩ : ∃ a : Nat, u = a := ⟨u.toNat, by omega⟩
  have hp := p2_pos S
  have hm : (2 : Int) ^ S ≤ 2 ^ 63 := p2_mono (by omega)
  have e63 : (2 : Int) ^ 63 = 9223372036854775808 := rfl
  rw [iL_and h0 h1 (by omega) (by omega)]
  have e2 : ((2 : Int) ^ S).toNat = 2 ^ S := by
    have : ((2 ^ S : Nat) : Int) = 2 ^ S := by simp
    omega
  have hand : a &&& 2 ^ S = a / 2 ^ S % 2 * 2 ^ S := by
    apply Nat.eq_of_testBit_eq
    intro i
    rw [Nat.testBit_and, Nat.testBit_two_pow]
    have hb : (a.testBit S).toNat = a / 2 ^ S % 2 := Nat.toNat_testBit a S
    rw [← hb]
    cases q : a.testBit S
    · by_cases r : S = i
      · subst r; simp [q]
      · simp [r]
    · rw [show true.toNat = 1 from rfl, Nat.one_mul, Nat.testBit_two_pow]
      by_cases r : S = i
      · subst r; simp [q]
      · simp [r]
  rw [e2, Int.toNat_natCast, hand]
  have e3 : (a : Int) / 2 ^ S % 2 = ((a / 2 ^ S % 2 : Nat) : Int) := by simp
  rw [e3]
  have hr : a / 2 ^ S % 2 = 0 ∨ a / 2 ^ S % 2 = 1 := by omega
  have hle : 2 ^ S ≤ 2 ^ 63 := Nat.pow_le_pow_right (by omega) (by omega)
  have hpn : 0 < 2 ^ S := Nat.pow_pos (by omega)
  rcases hr with r | r
  · rw [r, Nat.zero_mul]; simp
  · rw [r, Nat.one_mul]
    rw [iL_eqU (by omega) (by omega) (by omega) (by omega)]
    apply propext
    omega
set_option maxRecDepth 10000 in
theorem mask31 {u : Int} (h0 : 0 ≤ u) (h1 : u < 4294967296) : iL u &&& (iL 2147483648 ^^^ iL (-1)) = iL (u % 2147483648) := by
  obtain ⟨a, rfl⟩ : ∃ a : Nat, u = a := ⟨u.toNat, by omega⟩
  have e : iL 2147483648 ^^^ iL (-1) = iL ((2 ^ 32 * (2 ^ 32 - 1) + (2 ^ 31 - 1) : Nat) : Int) := by decide +kernel
  rw [e, iL_and h0 (by omega) (by omega) (by decide), Int.toNat_natCast, Int.toNat_natCast]
  congr 1
  have : a &&& (2 ^ 32 * (2 ^ 32 - 1) + (2 ^ 31 - 1)) = a % 2 ^ 31 := by
    apply Nat.eq_of_testBit_eq
    intro i
    rw [Nat.testBit_and, Nat.testBit_mod_two_pow, Nat.testBit_two_pow_mul_add _ (by omega), Nat.testBit_two_pow_sub_one, Nat.testBit_two_pow_sub_one]
    by_cases q : i < 32
    · rw [if_pos q]
      by_cases r : i < 31 <;> simp [r]
    · rw [if_neg q]
      have : a.testBit i = false := Nat.testBit_lt_two_pow (Nat.lt_of_lt_of_le (by omega : a < 2 ^ 32) (Nat.pow_le_pow_right (by omega) (by omega)))
      simp [this]
  rw [this]
  omega
set_option maxRecDepth 10000 in
def uOK (s : Nat) (u : Int) : Prop := 0 ≤ u ∧ (if s = 0 then u < 18446744073709551616 else u < 4294967296)
set_option maxRecDepth 10000 in
theorem size_spec {s : Nat} (hs : s < 2) {u : Int} (hu : uOK s u) : ∃ sg, f_Md_sign (iI (szD s)) = some sg ∧ ((iL u &&& sg = iL 0) = (u / 2 ^ szS s % 2 = 0)) ∧ (iL u &&& (sg ^^^ iL (-1))) &&& (if s = 0 then iL (-1) else iL 4294967295) = iL (u % 2 ^ szS s) := by
  obtain ⟨h0, h1⟩ := hu
  have : s = 0 ∨ s = 1 := by omega
  rcases this with rfl | rfl
  · rw [if_pos rfl] at h1 ⊢
    refine ⟨iL (2 ^ 63), by decide +kernel, and_bit h0 h1 (by omega), ?_⟩
    have e : iL (2 ^ 63) ^^^ iL (-1) = iL (2 ^ 63 - 1) := by decide +kernel
    rw [and_m1, e, iL_mask h0 h1 (by omega)]
    rfl
  · rw [if_neg (by decide)] at h1 ⊢
    refine ⟨iL (2 ^ 31), by decide +kernel, and_bit h0 (by omega) (by omega), ?_⟩
    have := mask31 h0 h1
    rw [show (2 : Int) ^ 31 = 2147483648 from rfl, this, iL_lowL (by omega) (by omega)]
    show iL (u % 2147483648 % 4294967296) = iL (u % 2147483648)
    congr 1
    omega
set_option maxRecDepth 10000 in
theorem bi_size {s : Nat} (hs : s < 2) {u : Int} (hu : 0 ≤ u) : u % 2 ^ szS s / 2 ^ (szD s - 1) = biX s u ∧ u % 2 ^ szS s % 2 ^ (szD s - 1) = biF s u := by
  unfold biX biF
  have : s = 0 ∨ s = 1 := by omega
  rcases this with rfl | rfl
  · show u % 9223372036854775808 / 4503599627370496 = u / 4503599627370496 % 2048 ∧ u % 9223372036854775808 % 4503599627370496 = u % 4503599627370496
    omega
  · show u % 2147483648 / 8388608 = u / 8388608 % 256 ∧ u % 2147483648 % 8388608 = u % 8388608
    omega
