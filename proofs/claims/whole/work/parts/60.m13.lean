-- ZE
set_option maxRecDepth 10000 in
abbrev AgT := Int32 × Int64 × List Int32
set_option maxRecDepth 10000 in
abbrev AG (sz szm : Int32) (kc : Nat → Int32) (vc : Nat → Int64) (tl tv : Nat → Int32) (tc : Nat → Nat → Int32) (km : Nat → Int32) (vm : Nat → Int64) (lm : Nat → Int32) (tm : Nat → Nat → Int32) (A : List AgT) : Prop := (sz = iI A.length) ∧ (szm = iI A.length) ∧ (A.length ≤ 16) ∧ (∀ i a, A[i]? = some a → kc i = a.1 ∧ km i = a.1 ∧ ∃ k : Int, 0 ≤ k ∧ k ≤ 7 ∧ a.1 = iI k) ∧ (∀ i a, A[i]? = some a → a.1 ≠ iI 7 → vc i = a.2.1 ∧ vm i = a.2.1) ∧ (∀ i a, A[i]? = some a → a.1 = iI 7 → a.2.2.length ≤ 200 ∧ BY 200 (tl i) (tv i) (tc i) a.2.2 ∧ lm i = iI a.2.2.length ∧ ∀ j x, a.2.2[j]? = some x → tm i j = x) ∧ (∀ i, i < 16 → ∃ T, BY 200 (tl i) (tv i) (tc i) T)
set_option maxRecDepth 10000 in
theorem AG.s1 {sz szm : Int32} {kc : Nat → Int32} {vc : Nat → Int64} {tl tv : Nat → Int32} {tc : Nat → Nat → Int32} {km : Nat → Int32} {vm : Nat → Int64} {lm : Nat → Int32} {tm : Nat → Nat → Int32} {A : List AgT} (h_ : AG sz szm kc vc tl tv tc km vm lm tm A) : sz = iI A.length := h_.1
set_option maxRecDepth 10000 in
theorem AG.s2 {sz szm : Int32} {kc : Nat → Int32} {vc : Nat → Int64} {tl tv : Nat → Int32} {tc : Nat → Nat → Int32} {km : Nat → Int32} {vm : Nat → Int64} {lm : Nat → Int32} {tm : Nat → Nat → Int32} {A : List AgT} (h_ : AG sz szm kc vc tl tv tc km vm lm tm A) : szm = iI A.length := h_.2.1
set_option maxRecDepth 10000 in
theorem AG.le {sz szm : Int32} {kc : Nat → Int32} {vc : Nat → Int64} {tl tv : Nat → Int32} {tc : Nat → Nat → Int32} {km : Nat → Int32} {vm : Nat → Int64} {lm : Nat → Int32} {tm : Nat → Nat → Int32} {A : List AgT} (h_ : AG sz szm kc vc tl tv tc km vm lm tm A) : A.length ≤ 16 := h_.2.2.1
set_option maxRecDepth 10000 in
theorem AG.kd {sz szm : Int32} {kc : Nat → Int32} {vc : Nat → Int64} {tl tv : Nat → Int32} {tc : Nat → Nat → Int32} {km : Nat → Int32} {vm : Nat → Int64} {lm : Nat → Int32} {tm : Nat → Nat → Int32} {A : List AgT} (h_ : AG sz szm kc vc tl tv tc km vm lm tm A) : ∀ i a, A[i]? = some a → kc i = a.1 ∧ km i = a.1 ∧ ∃ k : Int, 0 ≤ k ∧ k ≤ 7 ∧ a.1 = iI k := h_.2.2.2.1
set_option maxRecDepth 10000 in
theorem AG.vl {sz szm : Int32} {kc : Nat → Int32} {vc : Nat → Int64} {tl tv : Nat → Int32} {tc : Nat → Nat → Int32} {km : Nat → Int32} {vm : Nat → Int64} {lm : Nat → Int32} {tm : Nat → Nat → Int32} {A : List AgT} (h_ : AG sz szm kc vc tl tv tc km vm lm tm A) : ∀ i a, A[i]? = some a → a.1 ≠ iI 7 → vc i = a.2.1 ∧ vm i = a.2.1 := h_.2.2.2.2.1
set_option maxRecDepth 10000 in
theorem AG.tx {sz szm : Int32} {kc : Nat → Int32} {vc : Nat → Int64} {tl tv : Nat → Int32} {tc : Nat → Nat → Int32} {km : Nat → Int32} {vm : Nat → Int64} {lm : Nat → Int32} {tm : Nat → Nat → Int32} {A : List AgT} (h_ : AG sz szm kc vc tl tv tc km vm lm tm A) : ∀ i a, A[i]? = some a → a.1 = iI 7 → a.2.2.length ≤ 200 ∧ BY 200 (tl i) (tv i) (tc i) a.2.2 ∧ lm i = iI a.2.2.length ∧ ∀ j x, a.2.2[j]? = some x → tm i j = x := h_.2.2.2.2.2.1
set_option maxRecDepth 10000 in
theorem AG.rw_ {sz szm : Int32} {kc : Nat → Int32} {vc : Nat → Int64} {tl tv : Nat → Int32} {tc : Nat → Nat → Int32} {km : Nat → Int32} {vm : Nat → Int64} {lm : Nat → Int32} {tm : Nat → Nat → Int32} {A : List AgT} (h_ : AG sz szm kc vc tl tv tc km vm lm tm A) : ∀ i, i < 16 → ∃ T, BY 200 (tl i) (tv i) (tc i) T := h_.2.2.2.2.2.2
set_option maxRecDepth 10000 in
def heldV (k : Int) (v : Int64) : Int64 := if k = 1 then (if v = 1 then 1 else 0) else if k = 3 ∨ k = 5 then v.toInt32.toInt64 else v
set_option maxRecDepth 10000 in
theorem held_spec {k : Int} (h0 : 0 ≤ k) (h1 : k ≤ 7) (v : Int64) : f_Ar_held (iI k) v = some (heldV k v) := by
  unfold f_Ar_held f_Ar_held_27 heldV
  simp (disch := omega) only [iI_lit, iL_lit, iI_add, iI_sub, iI_mul, iI_neg, iL_add, iL_sub, iL_mul, iL_neg, iI_lt, iI_le, iI_eq, iL_lt, iL_le, iL_eqS, iI_c, iI_ok, iI_l, iL_i, iI_low, l_ushrI, l_shlI, l_shrI, i_shlI, i_shrI, i_ushrI, iI_div, iL_div, Int.toNat_natCast, Int.reduceToNat, iI_ofNat]
  by_cases q1 : k = 1
  · subst q1
    by_cases w : v = iL 1 <;> simp [w]
  · by_cases q3 : k = 3
    · subst q3; simp
    · by_cases q5 : k = 5
      · subst q5; simp
      · simp [q1, q3, q5]
set_option maxRecDepth 10000 in
theorem AG_add {sz szm : Int32} {kc : Nat → Int32} {vc : Nat → Int64} {tl tv : Nat → Int32} {tc : Nat → Nat → Int32} {km : Nat → Int32} {vm : Nat → Int64} {lm : Nat → Int32} {tm : Nat → Nat → Int32} {A : List AgT} (h : AG sz szm kc vc tl tv tc km vm lm tm A) (hl : A.length < 16) {k : Int} (hk0 : 0 ≤ k) (hk1 : k ≤ 6) (w : Int64) :
    AG (iI ((A.length : Int) + 1)) (iI ((A.length : Int) + 1)) (upd kc A.length (iI k)) (vp_updL vc A.length w) tl tv tc (upd km A.length (iI k)) (vp_updL vm A.length w) lm tm (A ++ [(iI k, w, [])]) := by
  have hcase : ∀ i a, (A ++ [(iI k, w, [])])[i]? = some a → (i ≠ A.length ∧ A[i]? = some a) ∨ (i = A.length ∧ a = (iI k, w, [])) := by
    intro i a hi
    rcases Nat.lt_trichotomy i A.length with q | q | q
    · rw [List.getElem?_append_left q] at hi
      exact Or.inl ⟨by omega, hi⟩
    · subst q
      rw [List.getElem?_append_right (Nat.le_refl _), Nat.sub_self] at hi
      exact Or.inr ⟨rfl, by simpa using hi.symm⟩
    · rw [List.getElem?_eq_none (by simp; omega)] at hi
      cases hi
  refine ⟨by simp, by simp, by simp; omega, ?_, ?_, ?_, h.rw_⟩
  · intro i a hi
    rcases hcase i a hi with ⟨q, hi⟩ | ⟨rfl, rfl⟩
    · rw [upd_n q, upd_n q]; exact h.kd i a hi
    · rw [upd_s, upd_s]; exact ⟨rfl, rfl, k, hk0, by omega, rfl⟩
  · intro i a hi h7
    rcases hcase i a hi with ⟨q, hi⟩ | ⟨rfl, rfl⟩
    · rw [updL_n q, updL_n q]; exact h.vl i a hi h7
    · rw [updL_s, updL_s]; exact ⟨rfl, rfl⟩
  · intro i a hi h7
    rcases hcase i a hi with ⟨q, hi⟩ | ⟨rfl, rfl⟩
    · exact h.tx i a hi h7
    · exfalso
      have : (iI k = iI 7) = (k = 7) := iI_eq (by omega) (by omega) (by omega) (by omega)
      rw [show ((iI k, w, ([] : List Int32)) : AgT).1 = iI k from rfl, this] at h7
      omega
set_option maxRecDepth 10000 in
def charOK (k : Int) (v : Int64) : Prop := k = 2 → ¬ v < 32 ∧ ¬ 126 < v
set_option maxRecDepth 10000 in
theorem argument_ok {sz szm : Int32} {kc : Nat → Int32} {vc : Nat → Int64} {tl tv : Nat → Int32} {tc : Nat → Nat → Int32} {km : Nat → Int32} {vm : Nat → Int64} {lm : Nat → Int32} {tm : Nat → Nat → Int32} {A : List AgT} (h : AG sz szm kc vc tl tv tc km vm lm tm A) (hl : A.length < 16) {k : Int} (hk0 : 0 ≤ k) (hk1 : k ≤ 6) {v : Int64} (hv : charOK k v) (co : Int32) :
    f_Nt_argument (iI k) v sz kc vc = some (iI ((A.length : Int) + 1), iI ((A.length : Int) + 1), upd kc A.length (iI k), vp_updL vc A.length (heldV k v)) ∧
    f_Md_argument (iI k) v szm co km vm = some (iI ((A.length : Int) + 1), iI ((A.length : Int) + 1), iI 0, upd km A.length (iI k), vp_updL vm A.length (heldV k v)) := by
  have hsz := h.s1
  have hszm := h.s2
  constructor
  · have e64 : f_Nt_argument_64 (iI k) v sz kc vc = some (iI ((A.length : Int) + 1), iI ((A.length : Int) + 1), upd kc A.length (iI k), vp_updL vc A.length (heldV k v)) := by
      unfold f_Nt_argument_64 f_Ar_add
      rw [held_spec hk0 (by omega), hsz]
      simp (disch := omega) only [iI_lit, iL_lit, iI_add, iI_sub, iI_mul, iI_neg, iL_add, iL_sub, iL_mul, iL_neg, iI_lt, iI_le, iI_eq, iL_lt, iL_le, iL_eqS, iI_c, iI_ok, iI_l, iL_i, iI_low, l_ushrI, l_shlI, l_shrI, i_shlI, i_shrI, i_ushrI, iI_div, iL_div, Int.toNat_natCast, Int.reduceToNat, iI_ofNat]
      rw [if_neg (by omega), if_pos (by omega), Option.bind_some, if_pos (by omega), Option.bind_some]
    unfold f_Nt_argument f_Nt_isCharacter
    rw [e64, if_neg (show ¬ iI k < 0 from by simp (disch := omega) only [iI_lit, iL_lit, iI_add, iI_sub, iI_mul, iI_neg, iL_add, iL_sub, iL_mul, iL_neg, iI_lt, iI_le, iI_eq, iL_lt, iL_le, iL_eqS, iI_c, iI_ok, iI_l, iL_i, iI_low, l_ushrI, l_shlI, l_shrI, i_shlI, i_shrI, i_ushrI, iI_div, iL_div, Int.toNat_natCast, Int.reduceToNat, iI_ofNat]; omega), if_pos (show iI k ≤ 6 from by simp (disch := omega) only [iI_lit, iL_lit, iI_add, iI_sub, iI_mul, iI_neg, iL_add, iL_sub, iL_mul, iL_neg, iI_lt, iI_le, iI_eq, iL_lt, iL_le, iL_eqS, iI_c, iI_ok, iI_l, iL_i, iI_low, l_ushrI, l_shlI, l_shrI, i_shlI, i_shrI, i_ushrI, iI_div, iL_div, Int.toNat_natCast, Int.reduceToNat, iI_ofNat]; omega), if_pos (show sz < 16 from by rw [hsz]; simp (disch := omega) only [iI_lit, iL_lit, iI_add, iI_sub, iI_mul, iI_neg, iL_add, iL_sub, iL_mul, iL_neg, iI_lt, iI_le, iI_eq, iL_lt, iL_le, iL_eqS, iI_c, iI_ok, iI_l, iL_i, iI_low, l_ushrI, l_shlI, l_shrI, i_shlI, i_shrI, i_ushrI, iI_div, iL_div, Int.toNat_natCast, Int.reduceToNat, iI_ofNat]; omega)]
    by_cases q : k = 2
    · obtain ⟨c1, c2⟩ := hv q
      subst q
      rw [if_pos (show iI 2 = (2 : Int32) from rfl), if_neg c1, if_neg c2, Option.bind_some, if_neg (by decide)]
    · rw [if_neg (show ¬ iI k = 2 from by simp (disch := omega) only [iI_lit, iL_lit, iI_add, iI_sub, iI_mul, iI_neg, iL_add, iL_sub, iL_mul, iL_neg, iI_lt, iI_le, iI_eq, iL_lt, iL_le, iL_eqS, iI_c, iI_ok, iI_l, iL_i, iI_low, l_ushrI, l_shlI, l_shrI, i_shlI, i_shrI, i_ushrI, iI_div, iL_div, Int.toNat_natCast, Int.reduceToNat, iI_ofNat]; omega)]
  · have e72 : ∀ co, f_Md_argument_72 (iI k) v 1 szm co km vm = some (iI ((A.length : Int) + 1), iI ((A.length : Int) + 1), iI 0, upd km A.length (iI k), vp_updL vm A.length (heldV k v)) := by
      intro co
      have g : f_Md_good (1 : Int32) (3 : Int32) co = some (1, 0) := rfl
      have e135 : ∀ (x : Int64) (co : Int32) (kk : Nat → Int32), f_Md_argument_135 x szm szm co kk vm = some (iI ((A.length : Int) + 1), iI ((A.length : Int) + 1), co, kk, vp_updL vm A.length x) := by
        intro x co kk
        unfold f_Md_argument_135
        rw [hszm]
        simp (disch := omega) only [iI_lit, iL_lit, iI_add, iI_sub, iI_mul, iI_neg, iL_add, iL_sub, iL_mul, iL_neg, iI_lt, iI_le, iI_eq, iL_lt, iL_le, iL_eqS, iI_c, iI_ok, iI_l, iL_i, iI_low, l_ushrI, l_shlI, l_shrI, i_shlI, i_shrI, i_ushrI, iI_div, iL_div, Int.toNat_natCast, Int.reduceToNat, iI_ofNat]
        rw [if_pos (by omega)]
      have hok : gx_ok szm 16 = true := by rw [hszm]; simp (disch := omega) only [iI_lit, iL_lit, iI_add, iI_sub, iI_mul, iI_neg, iL_add, iL_sub, iL_mul, iL_neg, iI_lt, iI_le, iI_eq, iL_lt, iL_le, iL_eqS, iI_c, iI_ok, iI_l, iL_i, iI_low, l_ushrI, l_shlI, l_shrI, i_shlI, i_shrI, i_ushrI, iI_div, iL_div, Int.toNat_natCast, Int.reduceToNat, iI_ofNat]; omega
      have hcl : szm.toNatClampNeg = A.length := by rw [hszm]; simp (disch := omega) only [iI_lit, iL_lit, iI_add, iI_sub, iI_mul, iI_neg, iL_add, iL_sub, iL_mul, iL_neg, iI_lt, iI_le, iI_eq, iL_lt, iL_le, iL_eqS, iI_c, iI_ok, iI_l, iL_i, iI_low, l_ushrI, l_shlI, l_shrI, i_shlI, i_shrI, i_ushrI, iI_div, iL_div, Int.toNat_natCast, Int.reduceToNat, iI_ofNat]
      unfold f_Md_argument_72 f_Md_argument_128
      rw [g, Option.bind_some, if_neg (by decide), if_pos hok]
      simp only [e135, hcl]
      unfold heldV
      by_cases q1 : k = 1
      · subst q1
        rw [if_pos (show iI 1 = (1 : Int32) from rfl), if_pos rfl]
        by_cases w : v = 1
        · rw [if_pos w, if_pos w]; rfl
        · rw [if_neg w, if_neg w]; rfl
      · rw [if_neg (show ¬ iI k = 1 from by simp (disch := omega) only [iI_lit, iL_lit, iI_add, iI_sub, iI_mul, iI_neg, iL_add, iL_sub, iL_mul, iL_neg, iI_lt, iI_le, iI_eq, iL_lt, iL_le, iL_eqS, iI_c, iI_ok, iI_l, iL_i, iI_low, l_ushrI, l_shlI, l_shrI, i_shlI, i_shrI, i_ushrI, iI_div, iL_div, Int.toNat_natCast, Int.reduceToNat, iI_ofNat]; omega), if_neg q1]
        by_cases q3 : k = 3
        · subst q3
          rw [if_pos (show iI 3 = (3 : Int32) from rfl), if_pos (Or.inl rfl)]; rfl
        · rw [if_neg (show ¬ iI k = 3 from by simp (disch := omega) only [iI_lit, iL_lit, iI_add, iI_sub, iI_mul, iI_neg, iL_add, iL_sub, iL_mul, iL_neg, iI_lt, iI_le, iI_eq, iL_lt, iL_le, iL_eqS, iI_c, iI_ok, iI_l, iL_i, iI_low, l_ushrI, l_shlI, l_shrI, i_shlI, i_shrI, i_ushrI, iI_div, iL_div, Int.toNat_natCast, Int.reduceToNat, iI_ofNat]; omega)]
          by_cases q5 : k = 5
          · subst q5
            rw [if_pos (show iI 5 = (5 : Int32) from rfl), if_pos (Or.inr rfl)]; rfl
          · rw [if_neg (show ¬ iI k = 5 from by simp (disch := omega) only [iI_lit, iL_lit, iI_add, iI_sub, iI_mul, iI_neg, iL_add, iL_sub, iL_mul, iL_neg, iI_lt, iI_le, iI_eq, iL_lt, iL_le, iL_eqS, iI_c, iI_ok, iI_l, iL_i, iI_low, l_ushrI, l_shlI, l_shrI, i_shlI, i_shrI, i_ushrI, iI_div, iL_div, Int.toNat_natCast, Int.reduceToNat, iI_ofNat]; omega), if_neg (by omega)]; rfl
    have g1 : f_Md_good (1 : Int32) (1 : Int32) co = some (1, 0) := rfl
    have g2 : ∀ co, f_Md_good (1 : Int32) (2 : Int32) co = some (1, 0) := fun _ => rfl
    unfold f_Md_argument f_Md_argument_16 f_Md_argument_38 f_Md_argument_67
    rw [if_neg (show ¬ iI k < 0 from by simp (disch := omega) only [iI_lit, iL_lit, iI_add, iI_sub, iI_mul, iI_neg, iL_add, iL_sub, iL_mul, iL_neg, iI_lt, iI_le, iI_eq, iL_lt, iL_le, iL_eqS, iI_c, iI_ok, iI_l, iL_i, iI_low, l_ushrI, l_shlI, l_shrI, i_shlI, i_shrI, i_ushrI, iI_div, iL_div, Int.toNat_natCast, Int.reduceToNat, iI_ofNat]; omega), if_neg (show ¬ 6 < iI k from by simp (disch := omega) only [iI_lit, iL_lit, iI_add, iI_sub, iI_mul, iI_neg, iL_add, iL_sub, iL_mul, iL_neg, iI_lt, iI_le, iI_eq, iL_lt, iL_le, iL_eqS, iI_c, iI_ok, iI_l, iL_i, iI_low, l_ushrI, l_shlI, l_shrI, i_shlI, i_shrI, i_ushrI, iI_div, iL_div, Int.toNat_natCast, Int.reduceToNat, iI_ofNat]; omega), g1, Option.bind_some, if_neg (by decide), if_neg (show ¬ 16 ≤ szm from by rw [hszm]; simp (disch := omega) only [iI_lit, iL_lit, iI_add, iI_sub, iI_mul, iI_neg, iL_add, iL_sub, iL_mul, iL_neg, iI_lt, iI_le, iI_eq, iL_lt, iL_le, iL_eqS, iI_c, iI_ok, iI_l, iL_i, iI_low, l_ushrI, l_shlI, l_shrI, i_shlI, i_shrI, i_ushrI, iI_div, iL_div, Int.toNat_natCast, Int.reduceToNat, iI_ofNat]; omega), g2, Option.bind_some, if_neg (by decide), e72]
    by_cases q : k = 2
    · obtain ⟨c1, c2⟩ := hv q
      subst q
      rw [if_pos (show iI 2 = (2 : Int32) from rfl), if_neg c1, if_neg c2]
    · rw [if_neg (show ¬ iI k = 2 from by simp (disch := omega) only [iI_lit, iL_lit, iI_add, iI_sub, iI_mul, iI_neg, iL_add, iL_sub, iL_mul, iL_neg, iI_lt, iI_le, iI_eq, iL_lt, iL_le, iL_eqS, iI_c, iI_ok, iI_l, iL_i, iI_low, l_ushrI, l_shlI, l_shrI, i_shlI, i_shrI, i_ushrI, iI_div, iL_div, Int.toNat_natCast, Int.reduceToNat, iI_ofNat]; omega)]
set_option maxRecDepth 10000 in
theorem argument_no1 {k : Int} (h0 : -2147483648 ≤ k) (h1 : k < 2147483648) (hk : k < 0 ∨ 6 < k) (v : Int64) (sz szm co : Int32) (kc km : Nat → Int32) (vc vm : Nat → Int64) :
    t_Nt_argument (iI k) v sz kc vc = some (1, sz, kc, vc) ∧ f_Md_argument (iI k) v szm co km vm = some (iI 0, szm, iI 1, km, vm) := by
  have e : f_Md_argument_15 (iI k) v szm co km vm = some (iI 0, szm, iI 1, km, vm) := rfl
  unfold t_Nt_argument f_Md_argument
  rw [e]
  by_cases q : k < 0
  · rw [if_pos (show iI k < 0 from by simp (disch := omega) only [iI_lit, iL_lit, iI_add, iI_sub, iI_mul, iI_neg, iL_add, iL_sub, iL_mul, iL_neg, iI_lt, iI_le, iI_eq, iL_lt, iL_le, iL_eqS, iI_c, iI_ok, iI_l, iL_i, iI_low, l_ushrI, l_shlI, l_shrI, i_shlI, i_shrI, i_ushrI, iI_div, iL_div, Int.toNat_natCast, Int.reduceToNat, iI_ofNat]; omega), if_pos (show iI k < 0 from by simp (disch := omega) only [iI_lit, iL_lit, iI_add, iI_sub, iI_mul, iI_neg, iL_add, iL_sub, iL_mul, iL_neg, iI_lt, iI_le, iI_eq, iL_lt, iL_le, iL_eqS, iI_c, iI_ok, iI_l, iL_i, iI_low, l_ushrI, l_shlI, l_shrI, i_shlI, i_shrI, i_ushrI, iI_div, iL_div, Int.toNat_natCast, Int.reduceToNat, iI_ofNat]; omega)]
    exact ⟨rfl, rfl⟩
  · rw [if_neg (show ¬ iI k < 0 from by simp (disch := omega) only [iI_lit, iL_lit, iI_add, iI_sub, iI_mul, iI_neg, iL_add, iL_sub, iL_mul, iL_neg, iI_lt, iI_le, iI_eq, iL_lt, iL_le, iL_eqS, iI_c, iI_ok, iI_l, iL_i, iI_low, l_ushrI, l_shlI, l_shrI, i_shlI, i_shrI, i_ushrI, iI_div, iL_div, Int.toNat_natCast, Int.reduceToNat, iI_ofNat]; omega), if_neg (show ¬ iI k < 0 from by simp (disch := omega) only [iI_lit, iL_lit, iI_add, iI_sub, iI_mul, iI_neg, iL_add, iL_sub, iL_mul, iL_neg, iI_lt, iI_le, iI_eq, iL_lt, iL_le, iL_eqS, iI_c, iI_ok, iI_l, iL_i, iI_low, l_ushrI, l_shlI, l_shrI, i_shlI, i_shrI, i_ushrI, iI_div, iL_div, Int.toNat_natCast, Int.reduceToNat, iI_ofNat]; omega), if_neg (show ¬ iI k ≤ 6 from by simp (disch := omega) only [iI_lit, iL_lit, iI_add, iI_sub, iI_mul, iI_neg, iL_add, iL_sub, iL_mul, iL_neg, iI_lt, iI_le, iI_eq, iL_lt, iL_le, iL_eqS, iI_c, iI_ok, iI_l, iL_i, iI_low, l_ushrI, l_shlI, l_shrI, i_shlI, i_shrI, i_ushrI, iI_div, iL_div, Int.toNat_natCast, Int.reduceToNat, iI_ofNat]; omega), if_pos (show 6 < iI k from by simp (disch := omega) only [iI_lit, iL_lit, iI_add, iI_sub, iI_mul, iI_neg, iL_add, iL_sub, iL_mul, iL_neg, iI_lt, iI_le, iI_eq, iL_lt, iL_le, iL_eqS, iI_c, iI_ok, iI_l, iL_i, iI_low, l_ushrI, l_shlI, l_shrI, i_shlI, i_shrI, i_ushrI, iI_div, iL_div, Int.toNat_natCast, Int.reduceToNat, iI_ofNat]; omega)]
    exact ⟨rfl, rfl⟩
set_option maxRecDepth 10000 in
theorem argument_no2 {k : Int} (hk0 : 0 ≤ k) (hk1 : k ≤ 6) (v : Int64) {sz szm : Int32} (hs : sz = iI 16) (hm : szm = iI 16) (co : Int32) (kc km : Nat → Int32) (vc vm : Nat → Int64) :
    t_Nt_argument (iI k) v sz kc vc = some (0, sz, kc, vc) ∧ f_Md_argument (iI k) v szm co km vm = some (iI 0, szm, iI 2, km, vm) := by
  have g1 : f_Md_good (1 : Int32) (1 : Int32) co = some (1, 0) := rfl
  have e : ∀ co, f_Md_argument_38 (iI k) v 0 szm co km vm = some (iI 0, szm, iI 2, km, vm) := fun _ => rfl
  unfold t_Nt_argument f_Md_argument f_Md_argument_16
  rw [if_neg (show ¬ iI k < 0 from by simp (disch := omega) only [iI_lit, iL_lit, iI_add, iI_sub, iI_mul, iI_neg, iL_add, iL_sub, iL_mul, iL_neg, iI_lt, iI_le, iI_eq, iL_lt, iL_le, iL_eqS, iI_c, iI_ok, iI_l, iL_i, iI_low, l_ushrI, l_shlI, l_shrI, i_shlI, i_shrI, i_ushrI, iI_div, iL_div, Int.toNat_natCast, Int.reduceToNat, iI_ofNat]; omega), if_neg (show ¬ iI k < 0 from by simp (disch := omega) only [iI_lit, iL_lit, iI_add, iI_sub, iI_mul, iI_neg, iL_add, iL_sub, iL_mul, iL_neg, iI_lt, iI_le, iI_eq, iL_lt, iL_le, iL_eqS, iI_c, iI_ok, iI_l, iL_i, iI_low, l_ushrI, l_shlI, l_shrI, i_shlI, i_shrI, i_ushrI, iI_div, iL_div, Int.toNat_natCast, Int.reduceToNat, iI_ofNat]; omega), if_pos (show iI k ≤ 6 from by simp (disch := omega) only [iI_lit, iL_lit, iI_add, iI_sub, iI_mul, iI_neg, iL_add, iL_sub, iL_mul, iL_neg, iI_lt, iI_le, iI_eq, iL_lt, iL_le, iL_eqS, iI_c, iI_ok, iI_l, iL_i, iI_low, l_ushrI, l_shlI, l_shrI, i_shlI, i_shrI, i_ushrI, iI_div, iL_div, Int.toNat_natCast, Int.reduceToNat, iI_ofNat]; omega), if_neg (show ¬ 6 < iI k from by simp (disch := omega) only [iI_lit, iL_lit, iI_add, iI_sub, iI_mul, iI_neg, iL_add, iL_sub, iL_mul, iL_neg, iI_lt, iI_le, iI_eq, iL_lt, iL_le, iL_eqS, iI_c, iI_ok, iI_l, iL_i, iI_low, l_ushrI, l_shlI, l_shrI, i_shlI, i_shrI, i_ushrI, iI_div, iL_div, Int.toNat_natCast, Int.reduceToNat, iI_ofNat]; omega), g1, Option.bind_some]
  dsimp only
  rw [if_neg (show ¬ (1 : Int32) = 0 from by decide), e, if_neg (show ¬ sz < 16 from by rw [hs]; decide), if_pos (show 16 ≤ szm from by rw [hm]; decide)]
  exact ⟨rfl, rfl⟩
set_option maxRecDepth 10000 in
theorem argument_no3 {v : Int64} (hv : v < 32 ∨ 126 < v) {sz szm : Int32} {l : Nat} (hl : l < 16) (hs : sz = iI l) (hm : szm = iI l) (co : Int32) (kc km : Nat → Int32) (vc vm : Nat → Int64) :
    t_Nt_argument (iI 2) v sz kc vc = some (2, sz, kc, vc) ∧ f_Md_argument (iI 2) v szm co km vm = some (iI 0, szm, iI 3, km, vm) := by
  have g1 : f_Md_good (1 : Int32) (1 : Int32) co = some (1, 0) := rfl
  have g2 : ∀ co, f_Md_good (1 : Int32) (2 : Int32) co = some (1, 0) := fun _ => rfl
  have e : ∀ co, f_Md_argument_71 (iI 2) v szm co km vm = some (iI 0, szm, iI 3, km, vm) := fun _ => rfl
  unfold t_Nt_argument f_Md_argument f_Md_argument_16 f_Md_argument_38 f_Nt_isCharacter
  rw [if_neg (show ¬ iI 2 < 0 from by decide), if_neg (show ¬ iI 2 < 0 from by decide), if_pos (show iI 2 ≤ 6 from by decide), if_neg (show ¬ 6 < iI 2 from by decide), g1, Option.bind_some]
  dsimp only
  rw [if_neg (show ¬ (1 : Int32) = 0 from by decide), g2, Option.bind_some]
  dsimp only
  rw [if_neg (show ¬ (1 : Int32) = 0 from by decide), e, if_pos (show sz < 16 from by rw [hs]; simp (disch := omega) only [iI_lit, iL_lit, iI_add, iI_sub, iI_mul, iI_neg, iL_add, iL_sub, iL_mul, iL_neg, iI_lt, iI_le, iI_eq, iL_lt, iL_le, iL_eqS, iI_c, iI_ok, iI_l, iL_i, iI_low, l_ushrI, l_shlI, l_shrI, i_shlI, i_shrI, i_ushrI, iI_div, iL_div, Int.toNat_natCast, Int.reduceToNat, iI_ofNat]; omega), if_neg (show ¬ 16 ≤ szm from by rw [hm]; simp (disch := omega) only [iI_lit, iL_lit, iI_add, iI_sub, iI_mul, iI_neg, iL_add, iL_sub, iL_mul, iL_neg, iI_lt, iI_le, iI_eq, iL_lt, iL_le, iL_eqS, iI_c, iI_ok, iI_l, iL_i, iI_low, l_ushrI, l_shlI, l_shrI, i_shlI, i_shrI, i_ushrI, iI_div, iL_div, Int.toNat_natCast, Int.reduceToNat, iI_ofNat]; omega), if_pos (show iI 2 = (2 : Int32) from rfl), if_pos (show iI 2 = (2 : Int32) from rfl)]
  by_cases q : v < 32
  · rw [if_pos q, if_pos q]; exact ⟨rfl, rfl⟩
  · have r : 126 < v := by rcases hv with h | h; exact absurd h q; exact h
    rw [if_neg q, if_neg q, if_pos r, if_pos r]; exact ⟨rfl, rfl⟩
-- ZF
set_option maxRecDepth 10000 in
theorem vu_s {α : Type} (f : Nat → α) (k : Nat) (x : α) : va_up f k x k = x := if_pos rfl
set_option maxRecDepth 10000 in
theorem vu_n {α : Type} {f : Nat → α} {k j : Nat} {x : α} (h : j ≠ k) : va_up f k x j = f j := if_neg h
set_option maxRecDepth 10000 in
theorem text_loop {t : Int32} {c : Nat → Int32} {E : List Int32} (hT : TP t c E) (hE : E.length ≤ 200) {l : Nat} (hl : l < 16) (tp co : Int32) (km lm : Nat → Int32) : ∀ (d i m : Nat) (tm : Nat → Nat → Int32), i + d = E.length → d < m → (∀ j x, j < i → E[j]? = some x → tm l j = x) →
    ∃ tm', f_Md_text_64 m (iI E.length) (iI i) tp (iI l) c co km lm tm = some (iI ((l : Int) + 1), tp, iI ((l : Int) + 1), co, km, lm, tm') ∧ (∀ j x, E[j]? = some x → tm' l j = x) ∧ ∀ q, q ≠ l → tm' q = tm q
  | 0, i, m + 1, tm, hi, hm, hr => by
    rw [f_Md_text_64]
    simp (disch := omega) only [iI_lit, iL_lit, iI_add, iI_sub, iI_mul, iI_neg, iL_add, iL_sub, iL_mul, iL_neg, iI_lt, iI_le, iI_eq, iL_lt, iL_le, iL_eqS, iI_c, iI_ok, iI_l, iL_i, iI_low, l_ushrI, l_shlI, l_shrI, i_shlI, i_shrI, i_ushrI, iI_div, iL_div, Int.toNat_natCast, Int.reduceToNat, iI_ofNat]
    rw [if_pos (by omega)]
    refine ⟨tm, rfl, fun j x hj => hr j x ?_ hj, fun q _ => rfl⟩
    have := (List.getElem?_eq_some_iff.mp hj).1
    omega
  | d + 1, i, m + 1, tm, hi, hm, hr => by
    rw [f_Md_text_64]
    simp (disch := omega) only [iI_lit, iL_lit, iI_add, iI_sub, iI_mul, iI_neg, iL_add, iL_sub, iL_mul, iL_neg, iI_lt, iI_le, iI_eq, iL_lt, iL_le, iL_eqS, iI_c, iI_ok, iI_l, iL_i, iI_low, l_ushrI, l_shlI, l_shrI, i_shlI, i_shrI, i_ushrI, iI_div, iL_div, Int.toNat_natCast, Int.reduceToNat, iI_ofNat]
    rw [if_neg (by omega), if_pos (by omega), if_pos (by omega), if_pos (by omega)]
    have hil : i < E.length := by omega
    have hg := List.getElem?_eq_getElem hil
    obtain ⟨tm', e, h1, h2⟩ := text_loop hT hE hl tp co km lm d (i + 1) m (va_up tm l (upd (tm l) i (vp_nar .byte (c i)))) (by omega) (by omega) (by
      intro j x hj hx
      rw [vu_s]
      by_cases q : j = i
      · subst q
        rw [upd_s, nar_bs, hT.2.1 j x hx]
        exact hT.2.2 x (List.mem_of_getElem? hx)
      · rw [upd_n q]
        exact hr j x (by omega) hx)
    exact ⟨tm', by exact_mod_cast e, h1, fun q hq => by rw [h2 q hq, vu_n hq]⟩
set_option maxRecDepth 10000 in
theorem TP_nil (c : Nat → Int32) : TP (iI 0) c [] := ⟨rfl, by simp, by simp⟩
set_option maxRecDepth 10000 in
theorem text_ok {sz szm : Int32} {kc : Nat → Int32} {vc : Nat → Int64} {tl tv : Nat → Int32} {tc : Nat → Nat → Int32} {km : Nat → Int32} {vm : Nat → Int64} {lm : Nat → Int32} {tm : Nat → Nat → Int32} {A : List AgT} (h : AG sz szm kc vc tl tv tc km vm lm tm A) (hl : A.length < 16)
    {len over t : Int32} {cc c : Nat → Int32} {E : List Int32} (hB : BY 65536 len over cc E) (hT : TP t c E) (hE : E.length ≤ 200) (co : Int32) :
    ∃ l' o' tl' tv' tc' km' lm' tm' kc' vc', f_Nt_text 65536 sz len cc over kc vc tl tv tc = some (iI ((A.length : Int) + 1), iI ((A.length : Int) + 1), l', o', kc', vc', tl', tv', tc') ∧
      f_Md_text t szm c co km lm tm = some (iI ((A.length : Int) + 1), iI 0, iI ((A.length : Int) + 1), iI 0, km', lm', tm') ∧ BY 65536 l' o' cc [] ∧
      AG (iI ((A.length : Int) + 1)) (iI ((A.length : Int) + 1)) kc' vc' tl' tv' tc' km' vm lm' tm' (A ++ [(iI 7, iL 0, E)]) := by
  have hsz := h.s1
  have hszm := h.s2
  have hlen : len = iI E.length := by rw [hB.1]; congr 2; omega
  obtain ⟨T, hrow⟩ := h.rw_ A.length hl
  obtain ⟨x1, x2, x3, ec, hc⟩ := bcopy_spec (by omega) (by omega) hrow hB
  rw [List.take_of_length_le (by omega)] at hc
  obtain ⟨l', o', ek, hk⟩ := keep_spec (by omega) hB (m := 0) (by omega) (by omega)
  rw [show ((E.take 65536).take (0 : Int).toNat) = [] from rfl] at hk
  obtain ⟨tm', em, m1, m2⟩ := text_loop hT hE hl (iI 0) (iI 0) (upd km A.length 7) (upd lm A.length t) E.length 0 gx_fu tm (by omega) (by have := fu_pos; omega) (by intro j x hj; omega)
  refine ⟨l', o', va_up tl A.length x1, va_up tv A.length x2, va_up tc A.length x3, upd km A.length 7, upd lm A.length t, tm', upd kc A.length 7, vp_updL vc A.length (iL 0), ?_, ?_, hk, ?_⟩
  · have hcl : sz.toNatClampNeg = A.length := by rw [hsz]; simp (disch := omega) only [iI_lit, iL_lit, iI_add, iI_sub, iI_mul, iI_neg, iL_add, iL_sub, iL_mul, iL_neg, iI_lt, iI_le, iI_eq, iL_lt, iL_le, iL_eqS, iI_c, iI_ok, iI_l, iL_i, iI_low, l_ushrI, l_shlI, l_shrI, i_shlI, i_shrI, i_ushrI, iI_div, iL_div, Int.toNat_natCast, Int.reduceToNat, iI_ofNat]
    have hok : gx_ok sz 16 = true := by rw [hsz]; simp (disch := omega) only [iI_lit, iL_lit, iI_add, iI_sub, iI_mul, iI_neg, iL_add, iL_sub, iL_mul, iL_neg, iI_lt, iI_le, iI_eq, iL_lt, iL_le, iL_eqS, iI_c, iI_ok, iI_l, iL_i, iI_low, l_ushrI, l_shlI, l_shrI, i_shlI, i_shrI, i_ushrI, iI_div, iL_div, Int.toNat_natCast, Int.reduceToNat, iI_ofNat]; omega
    have hadd : f_Ar_add 7 0 sz kc vc = some (iI ((A.length : Int) + 1), upd kc A.length 7, vp_updL vc A.length (iL 0)) := by
      unfold f_Ar_add
      have hh : f_Ar_held 7 0 = some (iL 0) := rfl
      rw [hh, if_neg (show ¬ 16 ≤ sz from by rw [hsz]; simp (disch := omega) only [iI_lit, iL_lit, iI_add, iI_sub, iI_mul, iI_neg, iL_add, iL_sub, iL_mul, iL_neg, iI_lt, iI_le, iI_eq, iL_lt, iL_le, iL_eqS, iI_c, iI_ok, iI_l, iL_i, iI_low, l_ushrI, l_shlI, l_shrI, i_shlI, i_shrI, i_ushrI, iI_div, iL_div, Int.toNat_natCast, Int.reduceToNat, iI_ofNat]; omega), if_pos hok, Option.bind_some, if_pos hok, hcl, hsz]
      simp (disch := omega) only [iI_lit, iL_lit, iI_add, iI_sub, iI_mul, iI_neg, iL_add, iL_sub, iL_mul, iL_neg, iI_lt, iI_le, iI_eq, iL_lt, iL_le, iL_eqS, iI_c, iI_ok, iI_l, iL_i, iI_low, l_ushrI, l_shlI, l_shrI, i_shlI, i_shrI, i_ushrI, iI_div, iL_div, Int.toNat_natCast, Int.reduceToNat, iI_ofNat]
    have hat : f_Ar_addText 65536 sz len cc kc vc tl tv tc = some (iI ((A.length : Int) + 1), upd kc A.length 7, vp_updL vc A.length (iL 0), va_up tl A.length x1, va_up tv A.length x2, va_up tc A.length x3) := by
      unfold f_Ar_addText
      rw [if_neg (show ¬ 16 ≤ sz from by rw [hsz]; simp (disch := omega) only [iI_lit, iL_lit, iI_add, iI_sub, iI_mul, iI_neg, iL_add, iL_sub, iL_mul, iL_neg, iI_lt, iI_le, iI_eq, iL_lt, iL_le, iL_eqS, iI_c, iI_ok, iI_l, iL_i, iI_low, l_ushrI, l_shlI, l_shrI, i_shlI, i_shrI, i_ushrI, iI_div, iL_div, Int.toNat_natCast, Int.reduceToNat, iI_ofNat]; omega), if_pos hok, hcl, ec, Option.bind_some, hadd, Option.bind_some]
    unfold f_Nt_text f_Nt_text_30 f_Nt_text_46
    rw [if_neg (show ¬ 16 ≤ sz from by rw [hsz]; simp (disch := omega) only [iI_lit, iL_lit, iI_add, iI_sub, iI_mul, iI_neg, iL_add, iL_sub, iL_mul, iL_neg, iI_lt, iI_le, iI_eq, iL_lt, iL_le, iL_eqS, iI_c, iI_ok, iI_l, iL_i, iI_low, l_ushrI, l_shlI, l_shrI, i_shlI, i_shrI, i_ushrI, iI_div, iL_div, Int.toNat_natCast, Int.reduceToNat, iI_ofNat]; omega), if_neg (show ¬ 200 < len from by rw [hlen]; simp (disch := omega) only [iI_lit, iL_lit, iI_add, iI_sub, iI_mul, iI_neg, iL_add, iL_sub, iL_mul, iL_neg, iI_lt, iI_le, iI_eq, iL_lt, iL_le, iL_eqS, iI_c, iI_ok, iI_l, iL_i, iI_low, l_ushrI, l_shlI, l_shrI, i_shlI, i_shrI, i_ushrI, iI_div, iL_div, Int.toNat_natCast, Int.reduceToNat, iI_ofNat]; omega), if_neg (show ¬ (1 : Int32) = 0 from by decide), hat, Option.bind_some]
    dsimp only
    rw [show (0 : Int32) = iI 0 from rfl, ek, Option.bind_some, if_neg (show ¬ (1 : Int32) = iI 0 from by decide)]
  · unfold f_Md_text f_Md_text_32
    have g1 : f_Md_good (1 : Int32) (1 : Int32) co = some (1, 0) := rfl
    have hcl : szm.toNatClampNeg = A.length := by rw [hszm]; simp (disch := omega) only [iI_lit, iL_lit, iI_add, iI_sub, iI_mul, iI_neg, iL_add, iL_sub, iL_mul, iL_neg, iI_lt, iI_le, iI_eq, iL_lt, iL_le, iL_eqS, iI_c, iI_ok, iI_l, iL_i, iI_low, l_ushrI, l_shlI, l_shrI, i_shlI, i_shrI, i_ushrI, iI_div, iL_div, Int.toNat_natCast, Int.reduceToNat, iI_ofNat]
    have hok : gx_ok szm 16 = true := by rw [hszm]; simp (disch := omega) only [iI_lit, iL_lit, iI_add, iI_sub, iI_mul, iI_neg, iL_add, iL_sub, iL_mul, iL_neg, iI_lt, iI_le, iI_eq, iL_lt, iL_le, iL_eqS, iI_c, iI_ok, iI_l, iL_i, iI_low, l_ushrI, l_shlI, l_shrI, i_shlI, i_shrI, i_ushrI, iI_div, iL_div, Int.toNat_natCast, Int.reduceToNat, iI_ofNat]; omega
    rw [if_neg (show ¬ 16 ≤ szm from by rw [hszm]; simp (disch := omega) only [iI_lit, iL_lit, iI_add, iI_sub, iI_mul, iI_neg, iL_add, iL_sub, iL_mul, iL_neg, iI_lt, iI_le, iI_eq, iL_lt, iL_le, iL_eqS, iI_c, iI_ok, iI_l, iL_i, iI_low, l_ushrI, l_shlI, l_shrI, i_shlI, i_shrI, i_ushrI, iI_div, iL_div, Int.toNat_natCast, Int.reduceToNat, iI_ofNat]; omega), if_neg (show ¬ 200 < t from by rw [hT.1]; simp (disch := omega) only [iI_lit, iL_lit, iI_add, iI_sub, iI_mul, iI_neg, iL_add, iL_sub, iL_mul, iL_neg, iI_lt, iI_le, iI_eq, iL_lt, iL_le, iL_eqS, iI_c, iI_ok, iI_l, iL_i, iI_low, l_ushrI, l_shlI, l_shrI, i_shlI, i_shrI, i_ushrI, iI_div, iL_div, Int.toNat_natCast, Int.reduceToNat, iI_ofNat]; omega), g1, Option.bind_some]
    dsimp only
    rw [if_neg (show ¬ (1 : Int32) = 0 from by decide), if_pos hok, if_pos hok, hcl]
    rw [← hT.1, ← hszm] at em
    exact em
  · have hcase : ∀ i a, (A ++ [(iI 7, iL 0, E)])[i]? = some a → (i ≠ A.length ∧ A[i]? = some a) ∨ (i = A.length ∧ a = (iI 7, iL 0, E)) := by
      intro i a hi
      rcases Nat.lt_trichotomy i A.length with q | q | q
      · rw [List.getElem?_append_left q] at hi
        exact Or.inl ⟨by omega, hi⟩
      · subst q
        rw [List.getElem?_append_right (Nat.le_refl _), Nat.sub_self] at hi
        exact Or.inr ⟨rfl, by simpa using hi.symm⟩
      · rw [List.getElem?_eq_none (by simp; omega)] at hi
        cases hi
    refine ⟨by simp, by simp, by simp; omega, ?_, ?_, ?_, ?_⟩
    · intro i a hi
      rcases hcase i a hi with ⟨q, hi⟩ | ⟨rfl, rfl⟩
      · rw [upd_n q, upd_n q]; exact h.kd i a hi
      · rw [upd_s, upd_s]; exact ⟨rfl, rfl, 7, by omega, by omega, rfl⟩
    · intro i a hi h7
      rcases hcase i a hi with ⟨q, hi⟩ | ⟨rfl, rfl⟩
      · rw [updL_n q]; exact h.vl i a hi h7
      · exact absurd rfl h7
    · intro i a hi h7
      rcases hcase i a hi with ⟨q, hi⟩ | ⟨rfl, rfl⟩
      · rw [vu_n q, vu_n q, vu_n q, upd_n q, m2 i q]; exact h.tx i a hi h7
      · rw [vu_s, vu_s, vu_s, upd_s]; exact ⟨hE, hc, hT.1, m1⟩
    · intro i hi
      by_cases q : i = A.length
      · subst q; rw [vu_s, vu_s, vu_s]; exact ⟨_, hc⟩
      · rw [vu_n q, vu_n q, vu_n q]; exact h.rw_ i hi
set_option maxRecDepth 10000 in
theorem text_no {sz szm : Int32} {kc : Nat → Int32} {vc : Nat → Int64} {tl tv : Nat → Int32} {tc : Nat → Nat → Int32} {km : Nat → Int32} {vm : Nat → Int64} {lm : Nat → Int32} {tm : Nat → Nat → Int32} {A : List AgT} (h : AG sz szm kc vc tl tv tc km vm lm tm A)
    {len over t : Int32} {cc c : Nat → Int32} {E : List Int32} (hB : BY 65536 len over cc E) (hT : TP t c E) (hE : E.length ≤ 65536) (hno : A.length = 16 ∨ 200 < E.length) (co : Int32) :
    ∃ l' o', t_Nt_text 65536 sz len cc over kc vc tl tv tc = some (0, sz, l', o', kc, vc, tl, tv, tc) ∧ f_Md_text t szm c co km lm tm = some (iI 0, iI 0, szm, iI 1, km, lm, tm) ∧ BY 65536 l' o' cc [] := by
  have hsz := h.s1
  have hszm := h.s2
  have hle := h.le
  have hlen : len = iI E.length := by rw [hB.1]; congr 2; omega
  obtain ⟨l', o', ek, hk⟩ := keep_spec (by omega) hB (m := 0) (by omega) (by omega)
  rw [show ((E.take 65536).take (0 : Int).toNat) = [] from rfl] at hk
  refine ⟨l', o', ?_, ?_, hk⟩
  · have e29 : t_Nt_text_29 65536 sz len cc over kc vc tl tv tc = some (0, sz, l', o', kc, vc, tl, tv, tc) := by
      unfold t_Nt_text_29 t_Nt_text_30 t_Nt_text_46
      rw [if_pos rfl, show (0 : Int32) = iI 0 from rfl, ek, Option.bind_some, if_pos rfl]
    unfold t_Nt_text
    rw [e29]
    by_cases q : A.length = 16
    · rw [if_pos (show 16 ≤ sz from by rw [hsz]; simp (disch := omega) only [iI_lit, iL_lit, iI_add, iI_sub, iI_mul, iI_neg, iL_add, iL_sub, iL_mul, iL_neg, iI_lt, iI_le, iI_eq, iL_lt, iL_le, iL_eqS, iI_c, iI_ok, iI_l, iL_i, iI_low, l_ushrI, l_shlI, l_shrI, i_shlI, i_shrI, i_ushrI, iI_div, iL_div, Int.toNat_natCast, Int.reduceToNat, iI_ofNat]; omega)]
    · rw [if_neg (show ¬ 16 ≤ sz from by rw [hsz]; simp (disch := omega) only [iI_lit, iL_lit, iI_add, iI_sub, iI_mul, iI_neg, iL_add, iL_sub, iL_mul, iL_neg, iI_lt, iI_le, iI_eq, iL_lt, iL_le, iL_eqS, iI_c, iI_ok, iI_l, iL_i, iI_low, l_ushrI, l_shlI, l_shrI, i_shlI, i_shrI, i_ushrI, iI_div, iL_div, Int.toNat_natCast, Int.reduceToNat, iI_ofNat]; omega), if_pos (show 200 < len from by rw [hlen]; simp (disch := omega) only [iI_lit, iL_lit, iI_add, iI_sub, iI_mul, iI_neg, iL_add, iL_sub, iL_mul, iL_neg, iI_lt, iI_le, iI_eq, iL_lt, iL_le, iL_eqS, iI_c, iI_ok, iI_l, iL_i, iI_low, l_ushrI, l_shlI, l_shrI, i_shlI, i_shrI, i_ushrI, iI_div, iL_div, Int.toNat_natCast, Int.reduceToNat, iI_ofNat]; omega)]
  · have e31 : f_Md_text_31 t 0 szm c co km lm tm = some (iI 0, iI 0, szm, iI 1, km, lm, tm) := rfl
    unfold f_Md_text
    rw [e31]
    by_cases q : A.length = 16
    · rw [if_pos (show 16 ≤ szm from by rw [hszm]; simp (disch := omega) only [iI_lit, iL_lit, iI_add, iI_sub, iI_mul, iI_neg, iL_add, iL_sub, iL_mul, iL_neg, iI_lt, iI_le, iI_eq, iL_lt, iL_le, iL_eqS, iI_c, iI_ok, iI_l, iL_i, iI_low, l_ushrI, l_shlI, l_shrI, i_shlI, i_shrI, i_ushrI, iI_div, iL_div, Int.toNat_natCast, Int.reduceToNat, iI_ofNat]; omega)]
    · rw [if_neg (show ¬ 16 ≤ szm from by rw [hszm]; simp (disch := omega) only [iI_lit, iL_lit, iI_add, iI_sub, iI_mul, iI_neg, iL_add, iL_sub, iL_mul, iL_neg, iI_lt, iI_le, iI_eq, iL_lt, iL_le, iL_eqS, iI_c, iI_ok, iI_l, iL_i, iI_low, l_ushrI, l_shlI, l_shrI, i_shlI, i_shrI, i_ushrI, iI_div, iL_div, Int.toNat_natCast, Int.reduceToNat, iI_ofNat]; omega), if_pos (show 200 < t from by rw [hT.1]; simp (disch := omega) only [iI_lit, iL_lit, iI_add, iI_sub, iI_mul, iI_neg, iL_add, iL_sub, iL_mul, iL_neg, iI_lt, iI_le, iI_eq, iL_lt, iL_le, iL_eqS, iI_c, iI_ok, iI_l, iL_i, iI_low, l_ushrI, l_shlI, l_shrI, i_shlI, i_shrI, i_ushrI, iI_div, iL_div, Int.toNat_natCast, Int.reduceToNat, iI_ofNat]; omega)]
-- ZG
set_option maxRecDepth 10000 in
theorem AG_nil {sz szm : Int32} {kc : Nat → Int32} {vc : Nat → Int64} {tl tv : Nat → Int32} {tc : Nat → Nat → Int32} {km : Nat → Int32} {vm : Nat → Int64} {lm : Nat → Int32} {tm : Nat → Nat → Int32} {A : List AgT} (h : AG sz szm kc vc tl tv tc km vm lm tm A) : AG (iI 0) (iI 0) kc vc tl tv tc km vm lm tm [] :=
  ⟨rfl, rfl, by simp, by simp, by simp, by simp, h.rw_⟩
set_option maxRecDepth 10000 in
theorem clear_ok {sz szm : Int32} {kc : Nat → Int32} {vc : Nat → Int64} {tl tv : Nat → Int32} {tc : Nat → Nat → Int32} {km : Nat → Int32} {vm : Nat → Int64} {lm : Nat → Int32} {tm : Nat → Nat → Int32} {A : List AgT} (h : AG sz szm kc vc tl tv tc km vm lm tm A) (co : Int32) :
    f_Nt_clear sz = some (iI A.length, iI 0) ∧ f_Md_clear szm co = some (iI A.length, iI 0, iI 0) := by
  rw [h.s1, h.s2]; exact ⟨rfl, rfl⟩
set_option maxRecDepth 10000 in
def cntT (th : Nat → Int32) : Nat → Nat
  | 0 => 0
  | n + 1 => cntT th n + (if th n = 0 then 0 else 1)
set_option maxRecDepth 10000 in
theorem cntT_le (th : Nat → Int32) : ∀ n, cntT th n ≤ n
  | 0 => Nat.le_refl _
  | n + 1 => by have := cntT_le th n; unfold cntT; split <;> omega
set_option maxRecDepth 10000 in
theorem cnt_loop (th : Nat → Int32) (pl ar ln tp co : Int32) : ∀ (d i m : Nat), i + d = 8 → d < m → f_Md_count_67 m (iI (cntT th i)) (iI i) th pl ar ln tp co = some (iI (cntT th 8), co)
  | 0, i, m + 1, hi, hm => by
    rw [f_Md_count_67]
    simp (disch := omega) only [iI_lit, iL_lit, iI_add, iI_sub, iI_mul, iI_neg, iL_add, iL_sub, iL_mul, iL_neg, iI_lt, iI_le, iI_eq, iL_lt, iL_le, iL_eqS, iI_c, iI_ok, iI_l, iL_i, iI_low, l_ushrI, l_shlI, l_shrI, i_shlI, i_shrI, i_ushrI, iI_div, iL_div, Int.toNat_natCast, Int.reduceToNat, iI_ofNat]
    rw [if_pos (by omega), show i = 8 by omega]
  | d + 1, i, m + 1, hi, hm => by
    have ih := cnt_loop th pl ar ln tp co d (i + 1) m (by omega) (by omega)
    rw [f_Md_count_67, if_neg (show ¬ (8 : Int32) ≤ iI i from by simp (disch := omega) only [iI_lit, iL_lit, iI_add, iI_sub, iI_mul, iI_neg, iL_add, iL_sub, iL_mul, iL_neg, iI_lt, iI_le, iI_eq, iL_lt, iL_le, iL_eqS, iI_c, iI_ok, iI_l, iL_i, iI_low, l_ushrI, l_shlI, l_shrI, i_shlI, i_shrI, i_ushrI, iI_div, iL_div, Int.toNat_natCast, Int.reduceToNat, iI_ofNat]; omega)]
    have hok : gx_ok (iI i) 8 = true := by simp (disch := omega) only [iI_lit, iL_lit, iI_add, iI_sub, iI_mul, iI_neg, iL_add, iL_sub, iL_mul, iL_neg, iI_lt, iI_le, iI_eq, iL_lt, iL_le, iL_eqS, iI_c, iI_ok, iI_l, iL_i, iI_low, l_ushrI, l_shlI, l_shrI, i_shlI, i_shrI, i_ushrI, iI_div, iL_div, Int.toNat_natCast, Int.reduceToNat, iI_ofNat]; omega
    have hcl : (iI i).toNatClampNeg = i := by simp (disch := omega) only [iI_lit, iL_lit, iI_add, iI_sub, iI_mul, iI_neg, iL_add, iL_sub, iL_mul, iL_neg, iI_lt, iI_le, iI_eq, iL_lt, iL_le, iL_eqS, iI_c, iI_ok, iI_l, iL_i, iI_low, l_ushrI, l_shlI, l_shrI, i_shlI, i_shrI, i_ushrI, iI_div, iL_div, Int.toNat_natCast, Int.reduceToNat, iI_ofNat]
    have hst : iI i + 1 = iI ((i + 1 : Nat) : Int) := by rw [show (1 : Int32) = iI 1 from rfl, iI_add]; rfl
    unfold f_Md_count_85
    rw [if_pos hok, hcl, hst]
    unfold cntT at ih
    by_cases q : th i = 0
    · rw [if_pos q] at ih ⊢
      exact ih
    · rw [if_neg q] at ih ⊢
      rw [show iI (cntT th i) + 1 = iI ((cntT th i + 1 : Nat) : Int) from by rw [show (1 : Int32) = iI 1 from rfl, iI_add]; rfl]
      exact ih
set_option maxRecDepth 10000 in
theorem count_ok {fc : Int32} {th : Nat → Int32} (hf : fc = iI (cntT th 8)) {a : Int} (h0 : 0 ≤ a) (h1 : a ≤ 4) (pl ar ln tp co : Int32) :
    ∃ w, f_Nt_count (iI a) fc pl ar ln tp = some w ∧ f_Md_count (iI a) th pl ar ln tp co = some (w, iI 0) := by
  have g1 : f_Md_good (1 : Int32) (1 : Int32) co = some (1, 0) := rfl
  have hc : f_Md_count_67 gx_fu 0 0 th pl ar ln tp 0 = some (iI (cntT th 8), 0) := cnt_loop th pl ar ln tp 0 8 0 gx_fu (by omega) (by have := fu_pos; omega)
  unfold f_Md_count f_Md_count_15
  rw [if_neg (show ¬ iI a < 0 from by simp (disch := omega) only [iI_lit, iL_lit, iI_add, iI_sub, iI_mul, iI_neg, iL_add, iL_sub, iL_mul, iL_neg, iI_lt, iI_le, iI_eq, iL_lt, iL_le, iL_eqS, iI_c, iI_ok, iI_l, iL_i, iI_low, l_ushrI, l_shlI, l_shrI, i_shlI, i_shrI, i_ushrI, iI_div, iL_div, Int.toNat_natCast, Int.reduceToNat, iI_ofNat]; omega), if_neg (show ¬ 4 < iI a from by simp (disch := omega) only [iI_lit, iL_lit, iI_add, iI_sub, iI_mul, iI_neg, iL_add, iL_sub, iL_mul, iL_neg, iI_lt, iI_le, iI_eq, iL_lt, iL_le, iL_eqS, iI_c, iI_ok, iI_l, iL_i, iI_low, l_ushrI, l_shlI, l_shrI, i_shlI, i_shrI, i_ushrI, iI_div, iL_div, Int.toNat_natCast, Int.reduceToNat, iI_ofNat]; omega), g1, Option.bind_some]
  dsimp only
  rw [if_neg (show ¬ (1 : Int32) = 0 from by decide), hc]
  have hcase : a = 0 ∨ a = 1 ∨ a = 2 ∨ a = 3 ∨ a = 4 := by omega
  rcases hcase with rfl | rfl | rfl | rfl | rfl
  · exact ⟨_, rfl, rfl⟩
  · exact ⟨_, rfl, rfl⟩
  · exact ⟨_, rfl, rfl⟩
  · exact ⟨_, rfl, rfl⟩
  · exact ⟨_, rfl, by rw [hf]; rfl⟩
set_option maxRecDepth 10000 in
theorem count_no {a : Int} (h0 : -2147483648 ≤ a) (h1 : a < 2147483648) (ha : a < 0 ∨ 4 < a) (th : Nat → Int32) (fc pl ar ln tp co : Int32) :
    t_Nt_count (iI a) fc pl ar ln tp = some 1 ∧ f_Md_count (iI a) th pl ar ln tp co = some (iI 0, iI 1) := by
  have e : f_Md_count_14 (iI a) th pl ar ln tp co = some (iI 0, iI 1) := rfl
  constructor
  · unfold t_Nt_count
    rw [if_neg (show ¬ iI a = 0 from by simp (disch := omega) only [iI_lit, iL_lit, iI_add, iI_sub, iI_mul, iI_neg, iL_add, iL_sub, iL_mul, iL_neg, iI_lt, iI_le, iI_eq, iL_lt, iL_le, iL_eqS, iI_c, iI_ok, iI_l, iL_i, iI_low, l_ushrI, l_shlI, l_shrI, i_shlI, i_shrI, i_ushrI, iI_div, iL_div, Int.toNat_natCast, Int.reduceToNat, iI_ofNat]; omega), if_neg (show ¬ iI a = 1 from by simp (disch := omega) only [iI_lit, iL_lit, iI_add, iI_sub, iI_mul, iI_neg, iL_add, iL_sub, iL_mul, iL_neg, iI_lt, iI_le, iI_eq, iL_lt, iL_le, iL_eqS, iI_c, iI_ok, iI_l, iL_i, iI_low, l_ushrI, l_shlI, l_shrI, i_shlI, i_shrI, i_ushrI, iI_div, iL_div, Int.toNat_natCast, Int.reduceToNat, iI_ofNat]; omega), if_neg (show ¬ iI a = 2 from by simp (disch := omega) only [iI_lit, iL_lit, iI_add, iI_sub, iI_mul, iI_neg, iL_add, iL_sub, iL_mul, iL_neg, iI_lt, iI_le, iI_eq, iL_lt, iL_le, iL_eqS, iI_c, iI_ok, iI_l, iL_i, iI_low, l_ushrI, l_shlI, l_shrI, i_shlI, i_shrI, i_ushrI, iI_div, iL_div, Int.toNat_natCast, Int.reduceToNat, iI_ofNat]; omega), if_neg (show ¬ iI a = 3 from by simp (disch := omega) only [iI_lit, iL_lit, iI_add, iI_sub, iI_mul, iI_neg, iL_add, iL_sub, iL_mul, iL_neg, iI_lt, iI_le, iI_eq, iL_lt, iL_le, iL_eqS, iI_c, iI_ok, iI_l, iL_i, iI_low, l_ushrI, l_shlI, l_shrI, i_shlI, i_shrI, i_ushrI, iI_div, iL_div, Int.toNat_natCast, Int.reduceToNat, iI_ofNat]; omega), if_neg (show ¬ iI a = 4 from by simp (disch := omega) only [iI_lit, iL_lit, iI_add, iI_sub, iI_mul, iI_neg, iL_add, iL_sub, iL_mul, iL_neg, iI_lt, iI_le, iI_eq, iL_lt, iL_le, iL_eqS, iI_c, iI_ok, iI_l, iL_i, iI_low, l_ushrI, l_shlI, l_shrI, i_shlI, i_shrI, i_ushrI, iI_div, iL_div, Int.toNat_natCast, Int.reduceToNat, iI_ofNat]; omega)]
  · unfold f_Md_count
    rw [e]
    by_cases q : a < 0
    · rw [if_pos (show iI a < 0 from by simp (disch := omega) only [iI_lit, iL_lit, iI_add, iI_sub, iI_mul, iI_neg, iL_add, iL_sub, iL_mul, iL_neg, iI_lt, iI_le, iI_eq, iL_lt, iL_le, iL_eqS, iI_c, iI_ok, iI_l, iL_i, iI_low, l_ushrI, l_shlI, l_shrI, i_shlI, i_shrI, i_ushrI, iI_div, iL_div, Int.toNat_natCast, Int.reduceToNat, iI_ofNat]; omega)]
    · rw [if_neg (show ¬ iI a < 0 from by simp (disch := omega) only [iI_lit, iL_lit, iI_add, iI_sub, iI_mul, iI_neg, iL_add, iL_sub, iL_mul, iL_neg, iI_lt, iI_le, iI_eq, iL_lt, iL_le, iL_eqS, iI_c, iI_ok, iI_l, iL_i, iI_low, l_ushrI, l_shlI, l_shrI, i_shlI, i_shrI, i_ushrI, iI_div, iL_div, Int.toNat_natCast, Int.reduceToNat, iI_ofNat]; omega), if_pos (show 4 < iI a from by simp (disch := omega) only [iI_lit, iL_lit, iI_add, iI_sub, iI_mul, iI_neg, iL_add, iL_sub, iL_mul, iL_neg, iI_lt, iI_le, iI_eq, iL_lt, iL_le, iL_eqS, iI_c, iI_ok, iI_l, iL_i, iI_low, l_ushrI, l_shlI, l_shrI, i_shlI, i_shrI, i_ushrI, iI_div, iL_div, Int.toNat_natCast, Int.reduceToNat, iI_ofNat]; omega)]
-- ZH
set_option maxRecDepth 10000 in
def headB (E : List Int32) : Nat → Nat → Nat
  | 0, i => i
  | d + 1, i => if ubAt E i ≤ 32 then headB E d (i + 1) else i
set_option maxRecDepth 10000 in
def tailB (E : List Int32) (a : Nat) : Nat → Nat
  | 0 => 0
  | n + 1 => if n + 1 ≤ a then n + 1 else if ubAt E n ≤ 32 then tailB E a n else n + 1
set_option maxRecDepth 10000 in
theorem headB_b (E : List Int32) : ∀ d i, i ≤ headB E d i ∧ headB E d i ≤ i + d
  | 0, i => ⟨Nat.le_refl _, Nat.le_refl _⟩
  | d + 1, i => by
    have := headB_b E d (i + 1)
    unfold headB
    split <;> omega
set_option maxRecDepth 10000 in
theorem tailB_b (E : List Int32) (a : Nat) : ∀ k, tailB E a k ≤ k
  | 0 => Nat.le_refl _
  | n + 1 => by
    have := tailB_b E a n
    unfold tailB
    split
    · omega
    · split <;> omega
set_option maxRecDepth 10000 in
theorem ubAt_get {E : List Int32} {i : Nat} (h : i < E.length) : ubAt E i = ub E[i] := by
  unfold ubAt
  rw [List.getElem?_eq_getElem h]
set_option maxRecDepth 10000 in
theorem at_in {n : Nat} (hn : n < 2147483648) {len over : Int32} {c : Nat → Int32} {E : List Int32} (h : BY n len over c E) (hE : E.length ≤ n) {i : Nat} (hi : i < E.length) : f_By_at (iI i) n len c = some (iI (ubAt E i)) := by
  rw [at_spec hn h (by omega) (by omega), if_pos (by omega), List.take_of_length_le hE, Int.toNat_natCast, ubAt_get hi, List.getElem?_eq_getElem hi]
  rfl
set_option maxRecDepth 10000 in
theorem ubAt_b (E : List Int32) (i : Nat) : 0 ≤ ubAt E i ∧ ubAt E i < 256 := by
  unfold ubAt
  split
  · rename_i x _
    exact ⟨ub_0 x, ub_l x⟩
  · omega
set_option maxRecDepth 10000 in
theorem sb18 {n : Nat} (hn : n < 1000000) {len over : Int32} {c : Nat → Int32} {E : List Int32} (h : BY n len over c E) (hE : E.length ≤ n) (hlen : len = iI E.length) (st : Int32) : ∀ (d i m : Nat), i + d = E.length → d < m →
    f_Rd_startBehindBlanks_18 m (iI i) n len (iI i) c st = f_Rd_startBehindBlanks_55 n len (iI (headB E d i)) c st
  | 0, i, m + 1, hi, hm => by
    rw [f_Rd_startBehindBlanks_18, if_pos (show len ≤ iI i from by rw [hlen]; simp (disch := omega) only [iI_lit, iL_lit, iI_add, iI_sub, iI_mul, iI_neg, iL_add, iL_sub, iL_mul, iL_neg, iI_lt, iI_le, iI_eq, iL_lt, iL_le, iL_eqS, iI_c, iI_ok, iI_l, iL_i, iI_low, l_ushrI, l_shlI, l_shrI, i_shlI, i_shrI, i_ushrI, iI_div, iL_div, Int.toNat_natCast, Int.reduceToNat, iI_ofNat]; omega)]
    rfl
  | d + 1, i, m + 1, hi, hm => by
    have ih := sb18 hn h hE hlen st d (i + 1) m (by omega) (by omega)
    have hb := ubAt_b E i
    rw [f_Rd_startBehindBlanks_18, if_neg (show ¬ len ≤ iI i from by rw [hlen]; simp (disch := omega) only [iI_lit, iL_lit, iI_add, iI_sub, iI_mul, iI_neg, iL_add, iL_sub, iL_mul, iL_neg, iI_lt, iI_le, iI_eq, iL_lt, iL_le, iL_eqS, iI_c, iI_ok, iI_l, iL_i, iI_low, l_ushrI, l_shlI, l_shrI, i_shlI, i_shrI, i_ushrI, iI_div, iL_div, Int.toNat_natCast, Int.reduceToNat, iI_ofNat]; omega), at_in (by omega) h hE (by omega), Option.bind_some]
    unfold headB
    by_cases q : ubAt E i ≤ 32
    · rw [if_pos q, if_neg (show ¬ (32 : Int32) < iI (ubAt E i) from by simp (disch := omega) only [iI_lit, iL_lit, iI_add, iI_sub, iI_mul, iI_neg, iL_add, iL_sub, iL_mul, iL_neg, iI_lt, iI_le, iI_eq, iL_lt, iL_le, iL_eqS, iI_c, iI_ok, iI_l, iL_i, iI_low, l_ushrI, l_shlI, l_shrI, i_shlI, i_shrI, i_ushrI, iI_div, iL_div, Int.toNat_natCast, Int.reduceToNat, iI_ofNat]; omega), ← ih]
      rw [show iI i + 1 = iI ((i + 1 : Nat) : Int) from by rw [show (1 : Int32) = iI 1 from rfl, iI_add]; rfl]
    · rw [if_neg q, if_pos (show (32 : Int32) < iI (ubAt E i) from by simp (disch := omega) only [iI_lit, iL_lit, iI_add, iI_sub, iI_mul, iI_neg, iL_add, iL_sub, iL_mul, iL_neg, iI_lt, iI_le, iI_eq, iL_lt, iL_le, iL_eqS, iI_c, iI_ok, iI_l, iL_i, iI_low, l_ushrI, l_shlI, l_shrI, i_shlI, i_shrI, i_ushrI, iI_div, iL_div, Int.toNat_natCast, Int.reduceToNat, iI_ofNat]; omega)]
set_option maxRecDepth 10000 in
theorem sb63 {n : Nat} (hn : n < 1000000) {len over : Int32} {c : Nat → Int32} {E : List Int32} (h : BY n len over c E) (hE : E.length ≤ n) {a : Nat} (ha : a ≤ E.length) : ∀ (k m : Nat), k ≤ E.length → k < m →
    f_Rd_startBehindBlanks_63 m (iI k) n len (iI a) c (iI k) = some (iI a, iI (tailB E a k))
  | 0, m + 1, hk, hm => by
    rw [f_Rd_startBehindBlanks_63, if_pos (show iI ((0 : Nat) : Int) ≤ iI a from by simp (disch := omega) only [iI_lit, iL_lit, iI_add, iI_sub, iI_mul, iI_neg, iL_add, iL_sub, iL_mul, iL_neg, iI_lt, iI_le, iI_eq, iL_lt, iL_le, iL_eqS, iI_c, iI_ok, iI_l, iL_i, iI_low, l_ushrI, l_shlI, l_shrI, i_shlI, i_shrI, i_ushrI, iI_div, iL_div, Int.toNat_natCast, Int.reduceToNat, iI_ofNat]; omega)]
    rfl
  | k + 1, m + 1, hk, hm => by
    have ih := sb63 hn h hE ha k m (by omega) (by omega)
    have hb := ubAt_b E k
    rw [f_Rd_startBehindBlanks_63]
    unfold tailB
    by_cases q : k + 1 ≤ a
    · rw [if_pos (show iI ((k + 1 : Nat) : Int) ≤ iI a from by simp (disch := omega) only [iI_lit, iL_lit, iI_add, iI_sub, iI_mul, iI_neg, iL_add, iL_sub, iL_mul, iL_neg, iI_lt, iI_le, iI_eq, iL_lt, iL_le, iL_eqS, iI_c, iI_ok, iI_l, iL_i, iI_low, l_ushrI, l_shlI, l_shrI, i_shlI, i_shrI, i_ushrI, iI_div, iL_div, Int.toNat_natCast, Int.reduceToNat, iI_ofNat]; omega), if_pos q]
    · have e1 : iI ((k + 1 : Nat) : Int) - 1 = iI k := by
        rw [show (1 : Int32) = iI 1 from rfl, iI_sub]; congr 1; omega
      have e2 : iI ((k + 1 : Nat) : Int) + (-1) = iI k := by
        rw [show (-1 : Int32) = iI (-1) from rfl, iI_add]; congr 1; omega
      rw [if_neg (show ¬ iI ((k + 1 : Nat) : Int) ≤ iI a from by simp (disch := omega) only [iI_lit, iL_lit, iI_add, iI_sub, iI_mul, iI_neg, iL_add, iL_sub, iL_mul, iL_neg, iI_lt, iI_le, iI_eq, iL_lt, iL_le, iL_eqS, iI_c, iI_ok, iI_l, iL_i, iI_low, l_ushrI, l_shlI, l_shrI, i_shlI, i_shrI, i_ushrI, iI_div, iL_div, Int.toNat_natCast, Int.reduceToNat, iI_ofNat]; omega), if_neg q, e1, e2, at_in (by omega) h hE (by omega), Option.bind_some]
      by_cases r : ubAt E k ≤ 32
      · rw [if_pos r, if_neg (show ¬ (32 : Int32) < iI (ubAt E k) from by simp (disch := omega) only [iI_lit, iL_lit, iI_add, iI_sub, iI_mul, iI_neg, iL_add, iL_sub, iL_mul, iL_neg, iI_lt, iI_le, iI_eq, iL_lt, iL_le, iL_eqS, iI_c, iI_ok, iI_l, iL_i, iI_low, l_ushrI, l_shlI, l_shrI, i_shlI, i_shrI, i_ushrI, iI_div, iL_div, Int.toNat_natCast, Int.reduceToNat, iI_ofNat]; omega)]
        exact ih
      · rw [if_neg r, if_pos (show (32 : Int32) < iI (ubAt E k) from by simp (disch := omega) only [iI_lit, iL_lit, iI_add, iI_sub, iI_mul, iI_neg, iL_add, iL_sub, iL_mul, iL_neg, iI_lt, iI_le, iI_eq, iL_lt, iL_le, iL_eqS, iI_c, iI_ok, iI_l, iL_i, iI_low, l_ushrI, l_shlI, l_shrI, i_shlI, i_shrI, i_ushrI, iI_div, iL_div, Int.toNat_natCast, Int.reduceToNat, iI_ofNat]; omega)]
set_option maxRecDepth 10000 in
theorem blanks_spec {n : Nat} (hn : n < 90000) {len over : Int32} {c : Nat → Int32} {E : List Int32} (h : BY n len over c E) (hE : E.length ≤ n) (at_ st : Int32) :
    f_Rd_startBehindBlanks n len at_ c st = some (iI (headB E E.length 0), iI (tailB E (headB E E.length 0) E.length)) := by
  have hlen : len = iI E.length := by rw [h.1]; congr 2; omega
  have hb := headB_b E E.length 0
  unfold f_Rd_startBehindBlanks
  have e := sb18 (by omega) h hE hlen len E.length 0 gx_fu (by omega) (by have := fu_pos; omega)
  rw [show (0 : Int32) = iI ((0 : Nat) : Int) from rfl, e]
  unfold f_Rd_startBehindBlanks_55
  rw [hlen] at h ⊢
  exact sb63 (by omega) h hE (by omega) E.length gx_fu (by omega) (by have := fu_pos; omega)
set_option maxRecDepth 10000 in
theorem blank_m {x : Int32} (h : sb x = x) : (x < 0 ∨ 32 < x) = (32 < ub x) := by
  obtain ⟨a, h0, h1, rfl⟩ := sb_of h
  unfold ub
  rw [u3_m]
  simp (disch := omega) only [iI_lit, iL_lit, iI_add, iI_sub, iI_mul, iI_neg, iL_add, iL_sub, iL_mul, iL_neg, iI_lt, iI_le, iI_eq, iL_lt, iL_le, iL_eqS, iI_c, iI_ok, iI_l, iL_i, iI_low, l_ushrI, l_shlI, l_shrI, i_shlI, i_shrI, i_ushrI, iI_div, iL_div, Int.toNat_natCast, Int.reduceToNat, iI_ofNat]
  apply propext
  omega
set_option maxRecDepth 10000 in
theorem mv18 {t : Int32} {c : Nat → Int32} {E : List Int32} (hT : TP t c E) (hE : E.length ≤ 65536) (tp dcn : Int32) (pt : Int64) (bi le us hn_ : Int32) (hd : Nat → Int32) (lc : Nat → Int64) (hp : Int32) (dg_ : Nat → Int32) (xn : Int32) (xd : Nat → Int32) (xp co : Int32) : ∀ (d i m : Nat), i + d = E.length → d < m →
    f_Md_value_18 m tp (iI i) (iI E.length) c dcn pt bi le us hn_ hd lc hp dg_ xn xd xp co = f_Md_value_68 gx_fu tp (iI (headB E d i)) (iI E.length) c dcn pt bi le us hn_ hd lc hp dg_ xn xd xp co
  | 0, i, m + 1, hi, hm => by
    rw [f_Md_value_18, if_pos (show iI E.length ≤ iI i from by simp (disch := omega) only [iI_lit, iL_lit, iI_add, iI_sub, iI_mul, iI_neg, iL_add, iL_sub, iL_mul, iL_neg, iI_lt, iI_le, iI_eq, iL_lt, iL_le, iL_eqS, iI_c, iI_ok, iI_l, iL_i, iI_low, l_ushrI, l_shlI, l_shrI, i_shlI, i_shrI, i_ushrI, iI_div, iL_div, Int.toNat_natCast, Int.reduceToNat, iI_ofNat]; omega)]
    rfl
  | d + 1, i, m + 1, hi, hm => by
    have ih := mv18 hT hE tp dcn pt bi le us hn_ hd lc hp dg_ xn xd xp co d (i + 1) m (by omega) (by omega)
    have hil : i < E.length := by omega
    have hok : gx_ok (iI i) 65536 = true := by simp (disch := omega) only [iI_lit, iL_lit, iI_add, iI_sub, iI_mul, iI_neg, iL_add, iL_sub, iL_mul, iL_neg, iI_lt, iI_le, iI_eq, iL_lt, iL_le, iL_eqS, iI_c, iI_ok, iI_l, iL_i, iI_low, l_ushrI, l_shlI, l_shrI, i_shlI, i_shrI, i_ushrI, iI_div, iL_div, Int.toNat_natCast, Int.reduceToNat, iI_ofNat]; omega
    have hcl : (iI i).toNatClampNeg = i := by simp (disch := omega) only [iI_lit, iL_lit, iI_add, iI_sub, iI_mul, iI_neg, iL_add, iL_sub, iL_mul, iL_neg, iI_lt, iI_le, iI_eq, iL_lt, iL_le, iL_eqS, iI_c, iI_ok, iI_l, iL_i, iI_low, l_ushrI, l_shlI, l_shrI, i_shlI, i_shrI, i_ushrI, iI_div, iL_div, Int.toNat_natCast, Int.reduceToNat, iI_ofNat]
    have hg := List.getElem?_eq_getElem hil
    have hx := hT.2.1 i _ hg
    have hs := blank_m (hT.2.2 _ (List.getElem_mem hil))
    rw [f_Md_value_18, if_neg (show ¬ iI E.length ≤ iI i from by simp (disch := omega) only [iI_lit, iL_lit, iI_add, iI_sub, iI_mul, iI_neg, iL_add, iL_sub, iL_mul, iL_neg, iI_lt, iI_le, iI_eq, iL_lt, iL_le, iL_eqS, iI_c, iI_ok, iI_l, iL_i, iI_low, l_ushrI, l_shlI, l_shrI, i_shlI, i_shrI, i_ushrI, iI_div, iL_div, Int.toNat_natCast, Int.reduceToNat, iI_ofNat]; omega), if_pos hok, if_pos hok, hcl, hx]
    unfold headB
    rw [ubAt_get hil]
    by_cases q : ub E[i] ≤ 32
    · have hn : ¬ (E[i] < 0 ∨ 32 < E[i]) := by rw [hs]; omega
      rw [if_pos q, if_neg (fun w => hn (Or.inl w)), if_neg (fun w => hn (Or.inr w)), ← ih]
      rw [show iI i + 1 = iI ((i + 1 : Nat) : Int) from by rw [show (1 : Int32) = iI 1 from rfl, iI_add]; rfl]
    · have hn : (E[i] < 0 ∨ 32 < E[i]) := by rw [hs]; omega
      rw [if_neg q]
      by_cases w : E[i] < 0
      · rw [if_pos w]
      · rw [if_neg w, if_pos (by rcases hn with z | z; exact absurd z w; exact z)]
set_option maxRecDepth 10000 in
theorem mv68 {t : Int32} {c : Nat → Int32} {E : List Int32} (hT : TP t c E) (hE : E.length ≤ 65536) (tp dcn : Int32) (pt : Int64) (bi le us hn_ : Int32) (hd : Nat → Int32) (lc : Nat → Int64) (hp : Int32) (dg_ : Nat → Int32) (xn : Int32) (xd : Nat → Int32) (xp co : Int32) {a : Nat} (ha : a ≤ E.length) : ∀ (k m : Nat), k ≤ E.length → k < m →
    f_Md_value_68 m tp (iI a) (iI k) c dcn pt bi le us hn_ hd lc hp dg_ xn xd xp co = f_Md_value_122 tp (iI a) (iI (tailB E a k)) c dcn pt bi le us hn_ hd lc hp dg_ xn xd xp co
  | 0, m + 1, hk, hm => by
    rw [f_Md_value_68, if_pos (show iI ((0 : Nat) : Int) ≤ iI a from by simp (disch := omega) only [iI_lit, iL_lit, iI_add, iI_sub, iI_mul, iI_neg, iL_add, iL_sub, iL_mul, iL_neg, iI_lt, iI_le, iI_eq, iL_lt, iL_le, iL_eqS, iI_c, iI_ok, iI_l, iL_i, iI_low, l_ushrI, l_shlI, l_shrI, i_shlI, i_shrI, i_ushrI, iI_div, iL_div, Int.toNat_natCast, Int.reduceToNat, iI_ofNat]; omega)]
    rfl
  | k + 1, m + 1, hk, hm => by
    have ih := mv68 hT hE tp dcn pt bi le us hn_ hd lc hp dg_ xn xd xp co ha k m (by omega) (by omega)
    rw [f_Md_value_68]
    unfold tailB
    by_cases q : k + 1 ≤ a
    · rw [if_pos (show iI ((k + 1 : Nat) : Int) ≤ iI a from by simp (disch := omega) only [iI_lit, iL_lit, iI_add, iI_sub, iI_mul, iI_neg, iL_add, iL_sub, iL_mul, iL_neg, iI_lt, iI_le, iI_eq, iL_lt, iL_le, iL_eqS, iI_c, iI_ok, iI_l, iL_i, iI_low, l_ushrI, l_shlI, l_shrI, i_shlI, i_shrI, i_ushrI, iI_div, iL_div, Int.toNat_natCast, Int.reduceToNat, iI_ofNat]; omega), if_pos q]
    · have e1 : iI ((k + 1 : Nat) : Int) - 1 = iI k := by
        rw [show (1 : Int32) = iI 1 from rfl, iI_sub]; congr 1; omega
      have hil : k < E.length := by omega
      have hok : gx_ok (iI k) 65536 = true := by simp (disch := omega) only [iI_lit, iL_lit, iI_add, iI_sub, iI_mul, iI_neg, iL_add, iL_sub, iL_mul, iL_neg, iI_lt, iI_le, iI_eq, iL_lt, iL_le, iL_eqS, iI_c, iI_ok, iI_l, iL_i, iI_low, l_ushrI, l_shlI, l_shrI, i_shlI, i_shrI, i_ushrI, iI_div, iL_div, Int.toNat_natCast, Int.reduceToNat, iI_ofNat]; omega
      have hcl : (iI k).toNatClampNeg = k := by simp (disch := omega) only [iI_lit, iL_lit, iI_add, iI_sub, iI_mul, iI_neg, iL_add, iL_sub, iL_mul, iL_neg, iI_lt, iI_le, iI_eq, iL_lt, iL_le, iL_eqS, iI_c, iI_ok, iI_l, iL_i, iI_low, l_ushrI, l_shlI, l_shrI, i_shlI, i_shrI, i_ushrI, iI_div, iL_div, Int.toNat_natCast, Int.reduceToNat, iI_ofNat]
      have hg := List.getElem?_eq_getElem hil
      have hx := hT.2.1 k _ hg
      have hs := blank_m (hT.2.2 _ (List.getElem_mem hil))
      rw [if_neg (show ¬ iI ((k + 1 : Nat) : Int) ≤ iI a from by simp (disch := omega) only [iI_lit, iL_lit, iI_add, iI_sub, iI_mul, iI_neg, iL_add, iL_sub, iL_mul, iL_neg, iI_lt, iI_le, iI_eq, iL_lt, iL_le, iL_eqS, iI_c, iI_ok, iI_l, iL_i, iI_low, l_ushrI, l_shlI, l_shrI, i_shlI, i_shrI, i_ushrI, iI_div, iL_div, Int.toNat_natCast, Int.reduceToNat, iI_ofNat]; omega), if_neg q, e1, if_pos hok, if_pos hok, hcl, hx, ubAt_get hil]
      by_cases r : ub E[k] ≤ 32
      · have hn : ¬ (E[k] < 0 ∨ 32 < E[k]) := by rw [hs]; omega
        rw [if_pos r, if_neg (fun w => hn (Or.inl w)), if_neg (fun w => hn (Or.inr w))]
        exact ih
      · have hn : (E[k] < 0 ∨ 32 < E[k]) := by rw [hs]; omega
        rw [if_neg r]
        by_cases w : E[k] < 0
        · rw [if_pos w]
        · rw [if_neg w, if_pos (by rcases hn with z | z; exact absurd z w; exact z)]
-- ZI
set_option maxRecDepth 10000 in
def neV (m : Int) (d : Nat) : Int := m / 2 ^ d + (if 2 ^ d < 2 * (m % 2 ^ d) ∨ (2 * (m % 2 ^ d) = 2 ^ d ∧ m / 2 ^ d % 2 = 1) then 1 else 0)
set_option maxRecDepth 10000 in
theorem ne_spec {m : Int} (h0 : 0 ≤ m) (h1 : m < 9223372036854775808) {d : Nat} (hd : 1 ≤ d) (hd' : d ≤ 62) : f_Nt_nearestEven (iL m) (iI d) = some (iL (neV m d)) := by
  have hp := p2_pos d
  have hm : (2 : Int) ^ d ≤ 2 ^ 62 := p2_mono hd'
  have e62 : (2 : Int) ^ 62 = 4611686018427387904 := rfl
  have hh : (2 : Int) ^ d = 2 * 2 ^ (d - 1) := by
    have : d = (d - 1) + 1 := by omega
    rw [this, Int.pow_succ, Nat.add_sub_cancel]
    omega
  have hp' := p2_pos (d - 1)
  have hq0 : 0 ≤ m / 2 ^ d := Int.ediv_nonneg h0 (by omega)
  have hq1 : m / 2 ^ d ≤ m := Int.ediv_le_self _ h0
  have hr0 : 0 ≤ m % 2 ^ d := Int.emod_nonneg _ (by omega)
  have hr1 : m % 2 ^ d < 2 ^ d := Int.emod_lt_of_pos _ hp
  have es1 : (1 : Int64) <<< ((iI d - 1).toInt64 &&& 63) = iL (2 ^ (d - 1)) := by
    rw [show (1 : Int32) = iI 1 from rfl, iI_sub, iI_l (by omega) (by omega), show (1 : Int64) = iL 1 from rfl, show (63 : Int64) = iL 63 from rfl, l_shlI (by omega) (by omega), Int.one_mul]
    rw [show ((d : Int) - 1).toNat = d - 1 by omega]
  have es2 : (1 : Int64) <<< ((iI d).toInt64 &&& 63) = iL (2 ^ d) := by
    rw [iI_l (by omega) (by omega), show (1 : Int64) = iL 1 from rfl, show (63 : Int64) = iL 63 from rfl, l_shlI (by omega) (by omega), Int.one_mul, Int.toNat_natCast]
  have es3 : iL m &&& (iL (2 ^ d) - 1) = iL (m % 2 ^ d) := by
    rw [show (1 : Int64) = iL 1 from rfl, iL_sub, iL_mask h0 (by omega) (by omega)]
  have es4 : ((iL m).toUInt64 >>> ((iI d).toInt64.toUInt64 &&& Int64.toUInt64 63)).toInt64 = iL (m / 2 ^ d) := by
    rw [iI_l (by omega) (by omega), show (63 : Int64) = iL 63 from rfl, l_ushrI (by omega) (by omega) h0 (by omega), Int.toNat_natCast]
  have es5 : iL (m / 2 ^ d) &&& 1 = iL (m / 2 ^ d % 2) := by
    rw [show (1 : Int64) = iL (2 ^ 1 - 1) from rfl, iL_mask hq0 (by omega) (by omega)]
    rfl
  have e44 : ∀ x, f_Nt_nearestEven_44 x = some (x + 1) := fun _ => rfl
  have e48 : ∀ x, f_Nt_nearestEven_48 x = some x := fun _ => rfl
  unfold f_Nt_nearestEven neV
  rw [es2, es1, es3, es4, es5, e44, e48]
  simp (disch := omega) only [iI_lit, iL_lit, iI_add, iI_sub, iI_mul, iI_neg, iL_add, iL_sub, iL_mul, iL_neg, iI_lt, iI_le, iI_eq, iL_lt, iL_le, iL_eqS, iI_c, iI_ok, iI_l, iL_i, iI_low, l_ushrI, l_shlI, l_shrI, i_shlI, i_shrI, i_ushrI, iI_div, iL_div, Int.toNat_natCast, Int.reduceToNat, iI_ofNat]
  by_cases q : 2 ^ (d - 1) < m % 2 ^ d
  · rw [if_pos q, if_pos (Or.inl (by omega))]
  · rw [if_neg q]
    by_cases r : m % 2 ^ d = 2 ^ (d - 1)
    · rw [if_pos r]
      by_cases w : m / 2 ^ d % 2 = 0
      · rw [if_pos w, if_neg (show ¬ (2 ^ d < 2 * (m % 2 ^ d) ∨ (2 * (m % 2 ^ d) = 2 ^ d ∧ m / 2 ^ d % 2 = 1)) by omega), Int.add_zero]
      · rw [if_neg w, if_pos (Or.inr ⟨by omega, by omega⟩)]
    · rw [if_neg r, if_neg (show ¬ (2 ^ d < 2 * (m % 2 ^ d) ∨ (2 * (m % 2 ^ d) = 2 ^ d ∧ m / 2 ^ d % 2 = 1)) by omega), Int.add_zero]
-- ZJ
set_option maxRecDepth 10000 in
theorem szinf {s : Nat} (hs : s < 2) : f_Sz_infinity s = some (iL ((2 ^ szK s - 1) * 2 ^ (szD s - 1))) ∧ f_Sz_fractionMask s = some (iL (2 ^ (szD s - 1) - 1)) ∧ f_Sz_notANumber s = some (iL ((2 ^ szK s - 1) * 2 ^ (szD s - 1) + 2 ^ (szD s - 2))) := by
  have : s = 0 ∨ s = 1 := by omega
  rcases this with rfl | rfl
  · exact ⟨by decide +kernel, by decide +kernel, by decide +kernel⟩
  · exact ⟨by decide +kernel, by decide +kernel, by decide +kernel⟩
set_option maxRecDepth 10000 in
def r92 (s : Nat) (q c : Int) : Int := if q ≤ szG s then (if c < 2 ^ (szD s - 1) then c else (q - szL s + 1) * 2 ^ (szD s - 1) + c % 2 ^ (szD s - 1)) else (2 ^ szK s - 1) * 2 ^ (szD s - 1)
set_option maxRecDepth 10000 in
theorem div0 {c P : Int} (h0 : 0 ≤ c) (hP : 0 < P) : (c / P = 0) = (c < P) := by
  apply propext
  constructor
  · intro h
    have := Int.mul_ediv_add_emod c P
    have := Int.emod_lt_of_pos c hP
    rw [h] at *
    omega
  · intro h
    exact Int.ediv_eq_zero_of_lt h0 h
set_option maxRecDepth 10000 in
theorem r92_spec {s : Nat} (hs : s < 2) {q c : Int} (hq0 : szL s ≤ q) (hq1 : q ≤ 2000000000) (hc0 : 0 ≤ c) (hc1 : c < 18446744073709551616) : f_Sz_rounded_92 s (iI q) (iL c) = some (iL (r92 s q c)) := by
  obtain ⟨g0, g1, g2, g3⟩ := gz hs
  obtain ⟨i1, i2, _⟩ := szinf hs
  obtain ⟨z1, z2, z3, z4, z5, z6⟩ := sz_p hs
  have hP := p2_pos (szD s - 1)
  have hG : szG s ≤ 971 ∧ 0 ≤ szG s ∧ szG s - szL s + 1 < 2 ^ szK s ∧ (2 : Int) ^ szK s ≤ 2048 := by
    rcases sz_cases hs with h | h
    · obtain ⟨_, _, h2, h3, _, h5⟩ := h; rw [h2, h3, h5]; decide
    · obtain ⟨_, _, h2, h3, _, h5⟩ := h; rw [h2, h3, h5]; decide
  have e0 : (gx_sz 0).getD s 0 = iI (szD s) := g0
  have e1 : (gx_sz 1).getD s 0 = iI (szL s) := g1
  have e2 : (gx_sz 2).getD s 0 = iI (szG s) := g2
  have eD : (iI (szD s) - 1).toInt64 = iL ((szD s - 1 : Nat) : Int) := by
    rw [show (1 : Int32) = iI 1 from rfl, iI_sub, iI_l (by omega) (by omega)]
    congr 1
    omega
  unfold f_Sz_rounded_92 r92
  rw [e0, e1, e2, i1, i2, Option.bind_some, Option.bind_some, eD]
  simp only [if_pos hs]
  rw [show (63 : Int64) = iL 63 from rfl, l_ushrI (by omega) (by omega) hc0 hc1, Int.toNat_natCast]
  by_cases w : q ≤ szG s
  · rw [if_pos (show iI q ≤ iI (szG s) from by simp (disch := omega) only [iI_lit, iL_lit, iI_add, iI_sub, iI_mul, iI_neg, iL_add, iL_sub, iL_mul, iL_neg, iI_lt, iI_le, iI_eq, iL_lt, iL_le, iL_eqS, iI_c, iI_ok, iI_l, iL_i, iI_low, l_ushrI, l_shlI, l_shrI, i_shlI, i_shrI, i_ushrI, iI_div, iL_div, Int.toNat_natCast, Int.reduceToNat, iI_ofNat]; omega), if_pos w]
    by_cases r : c < 2 ^ (szD s - 1)
    · rw [if_pos r, if_pos (show iL (c / 2 ^ (szD s - 1)) = 0 from by rw [Int.ediv_eq_zero_of_lt hc0 r]; rfl)]
    · have hd0 : 0 ≤ c / 2 ^ (szD s - 1) := Int.ediv_nonneg hc0 (by omega)
      have hd1 : c / 2 ^ (szD s - 1) ≤ c := Int.ediv_le_self _ hc0
      have hne : ¬ iL (c / 2 ^ (szD s - 1)) = 0 := by
        rw [show (0 : Int64) = iL 0 from rfl, iL_eqU hd0 (by omega) (by omega) (by omega), div0 hc0 hP]
        exact r
      rw [if_neg r, if_neg hne]
      have hx : iI q - iI (szL s) + 1 = iI (q - szL s + 1) := by
        rw [iI_sub, show (1 : Int32) = iI 1 from rfl, iI_add]
      have hr0 : 0 ≤ c % 2 ^ (szD s - 1) := Int.emod_nonneg _ (by omega)
      have hr1 : c % 2 ^ (szD s - 1) < 2 ^ (szD s - 1) := Int.emod_lt_of_pos _ hP
      have hmul : (q - szL s + 1) * 2 ^ (szD s - 1) ≤ 2047 * 4503599627370496 := by
        exact Int.mul_le_mul (by omega) z1 (by omega) (by omega)
      rw [hx, iI_l (by omega) (by omega), l_shlI (by omega) (by omega), Int.toNat_natCast, iL_mask hc0 hc1 (by omega)]
      rw [iL_orK (szD s - 1) (by omega) hr0 hr1 (by omega)]
  · rw [if_neg (show ¬ iI q ≤ iI (szG s) from by simp (disch := omega) only [iI_lit, iL_lit, iI_add, iI_sub, iI_mul, iI_neg, iL_add, iL_sub, iL_mul, iL_neg, iI_lt, iI_le, iI_eq, iL_lt, iL_le, iL_eqS, iI_c, iI_ok, iI_l, iL_i, iI_low, l_ushrI, l_shlI, l_shrI, i_shlI, i_shrI, i_ushrI, iI_div, iL_div, Int.toNat_natCast, Int.reduceToNat, iI_ofNat]; omega), if_neg w]
-- ZK
set_option maxRecDepth 10000 in
def r69 (s : Nat) (q c : Int) : Int := if c < 2 ^ szD s then r92 s q c else r92 s (q + 1) (c / 2)
set_option maxRecDepth 10000 in
theorem r69_spec {s : Nat} (hs : s < 2) {q c : Int} (hq0 : szL s ≤ q) (hq1 : q ≤ 1999999999) (hc0 : 0 ≤ c) (hc1 : c < 18446744073709551616) : f_Sz_rounded_69 s (iI q) (iL c) = some (iL (r69 s q c)) := by
  obtain ⟨g0, g1, g2, g3⟩ := gz hs
  obtain ⟨z1, z2, z3, z4, z5, z6⟩ := sz_p hs
  have e0 : (gx_sz 0).getD s 0 = iI (szD s) := g0
  have hP := p2_pos (szD s)
  have hd0 : 0 ≤ c / 2 ^ szD s := Int.ediv_nonneg hc0 (by omega)
  have hd1 : c / 2 ^ szD s ≤ c := Int.ediv_le_self _ hc0
  unfold f_Sz_rounded_69 r69
  rw [if_pos hs, e0, iI_l (by omega) (by omega), show (63 : Int64) = iL 63 from rfl, l_ushrI (by omega) (by omega) hc0 hc1, Int.toNat_natCast]
  rw [show (1 : Int32).toInt64 = iL 1 from rfl, l_ushrI (by omega) (by omega) hc0 hc1]
  have hz : (iL (c / 2 ^ szD s) = (0 : Int64)) = (c < 2 ^ szD s) := by
    rw [show (0 : Int64) = iL 0 from rfl, iL_eqU hd0 (by omega) (by omega) (by omega), div0 hc0 hP]
  simp only [hz]
  by_cases r : c < 2 ^ szD s
  · rw [if_pos r, if_pos r]
    exact r92_spec hs hq0 (by omega) hc0 hc1
  · rw [if_neg r, if_neg r, show (1 : Int32) = iI 1 from rfl, iI_add, show (2 : Int) ^ (1 : Int).toNat = 2 from rfl]
    exact r92_spec hs (by omega) (by omega) (by omega) (by omega)
set_option maxRecDepth 10000 in
def roV (s : Nat) (m t : Int) (b : Nat) : Int :=
  if m = 0 then 0 else if 62 < max (t + b - szD s) (szL s) - t then 0 else
  if max (t + b - szD s) (szL s) - t ≤ 0 then r69 s (max (t + b - szD s) (szL s)) (m * 2 ^ (t - max (t + b - szD s) (szL s)).toNat) else r69 s (max (t + b - szD s) (szL s)) (neV m (max (t + b - szD s) (szL s) - t).toNat)
set_option maxRecDepth 10000 in
theorem neV_b {m : Int} (h0 : 0 ≤ m) (d : Nat) : 0 ≤ neV m d ∧ neV m d ≤ m + 1 := by
  have hp := p2_pos d
  have hq0 : 0 ≤ m / 2 ^ d := Int.ediv_nonneg h0 (by omega)
  have hq1 : m / 2 ^ d ≤ m := Int.ediv_le_self _ h0
  unfold neV
  split <;> omega
set_option maxRecDepth 10000 in
theorem sro_spec {s : Nat} (hs : s < 2) {m t : Int} (h0 : 0 ≤ m) (h1 : m < 4611686018427387904) (ht0 : -1100000000 ≤ t) (ht1 : t ≤ 1100000000) {b : Nat} (hb : isBL m b) (hb64 : b ≤ 64) (hnl : f_JLong_numberOfLeadingZeros (iL m) = some (iI (64 - b))) : f_Sz_rounded s (iL m) (iI t) = some (iL (roV s m t b)) := by
  obtain ⟨g0, g1, g2, g3⟩ := gz hs
  obtain ⟨z1, z2, z3, z4, z5, z6⟩ := sz_p hs
  have e0 : (gx_sz 0).getD s 0 = iI (szD s) := g0
  have e1 : (gx_sz 1).getD s 0 = iI (szL s) := g1
  unfold f_Sz_rounded roV
  by_cases hm : m = 0
  · subst hm
    rw [if_pos (show iL 0 = 0 from rfl), if_pos rfl]
    rfl
  · have hmne : ¬ iL m = 0 := by
      rw [show (0 : Int64) = iL 0 from rfl, iL_eqU h0 (by omega) (by omega) (by omega)]
      exact hm
    rw [if_neg hmne, if_neg hm, hnl, Option.bind_some, if_pos hs, if_pos hs, e0, e1]
    rw [show (64 : Int32) = iI 64 from rfl, iI_sub, iI_add, iI_sub, max_spec (by omega) (by omega) (by omega) (by omega), Option.bind_some]
    rw [show t + (64 - (64 - (b : Int))) - (szD s : Int) = t + b - szD s by omega]
    have hQ0 : szL s ≤ max (t + b - szD s) (szL s) := Int.le_max_right _ _
    have hQ1 : max (t + b - szD s) (szL s) ≤ 1100000064 := by omega
    have hQ2 : t + b - szD s ≤ max (t + b - szD s) (szL s) := Int.le_max_left _ _
    have hQ3 : max (t + b - szD s) (szL s) - t ≤ 1100000064 := by omega
    generalize max (t + b - szD s) (szL s) = Q at *
    rw [iI_sub]
    by_cases w : 62 < Q - t
    · rw [if_pos w, if_neg (show ¬ iI (Q - t) ≤ 62 from by simp (disch := omega) only [iI_lit, iL_lit, iI_add, iI_sub, iI_mul, iI_neg, iL_add, iL_sub, iL_mul, iL_neg, iI_lt, iI_le, iI_eq, iL_lt, iL_le, iL_eqS, iI_c, iI_ok, iI_l, iL_i, iI_low, l_ushrI, l_shlI, l_shrI, i_shlI, i_shrI, i_ushrI, iI_div, iL_div, Int.toNat_natCast, Int.reduceToNat, iI_ofNat]; omega)]
      rfl
    · rw [if_neg w, if_pos (show iI (Q - t) ≤ 62 from by simp (disch := omega) only [iI_lit, iL_lit, iI_add, iI_sub, iI_mul, iI_neg, iL_add, iL_sub, iL_mul, iL_neg, iI_lt, iI_le, iI_eq, iL_lt, iL_le, iL_eqS, iI_c, iI_ok, iI_l, iL_i, iI_low, l_ushrI, l_shlI, l_shrI, i_shlI, i_shrI, i_ushrI, iI_div, iL_div, Int.toNat_natCast, Int.reduceToNat, iI_ofNat]; omega)]
      by_cases r : Q - t ≤ 0
      · rw [if_pos r, if_pos (show iI (Q - t) ≤ 0 from by simp (disch := omega) only [iI_lit, iL_lit, iI_add, iI_sub, iI_mul, iI_neg, iL_add, iL_sub, iL_mul, iL_neg, iI_lt, iI_le, iI_eq, iL_lt, iL_le, iL_eqS, iI_c, iI_ok, iI_l, iL_i, iI_low, l_ushrI, l_shlI, l_shrI, i_shlI, i_shrI, i_ushrI, iI_div, iL_div, Int.toNat_natCast, Int.reduceToNat, iI_ofNat]; omega), iI_neg, iI_l (by omega) (by omega), show (63 : Int64) = iL 63 from rfl, l_shlI (by omega) (by omega)]
        rw [show (-(Q - t)).toNat = (t - Q).toNat by omega]
        have hD53 : szD s ≤ 53 := by unfold szD; split <;> omega
        have hk : (t - Q).toNat + b ≤ 53 := by omega
        have hpk := p2_pos (t - Q).toNat
        have hlt : m * 2 ^ (t - Q).toNat < 2 ^ 53 := by
          have a1 : m * 2 ^ (t - Q).toNat < 2 ^ b * 2 ^ (t - Q).toNat := Int.mul_lt_mul_of_pos_right hb.1 hpk
          have a2 : (2 : Int) ^ b * 2 ^ (t - Q).toNat = 2 ^ (b + (t - Q).toNat) := (Int.pow_add 2 b _).symm
          have a3 : (2 : Int) ^ (b + (t - Q).toNat) ≤ 2 ^ 53 := p2_mono (by omega)
          omega
        have hge : 0 ≤ m * 2 ^ (t - Q).toNat := Int.mul_nonneg h0 (by omega)
        have e53 : (2 : Int) ^ 53 = 9007199254740992 := rfl
        exact r69_spec hs hQ0 (by omega) hge (by omega)
      · rw [if_neg r, if_neg (show ¬ iI (Q - t) ≤ 0 from by simp (disch := omega) only [iI_lit, iL_lit, iI_add, iI_sub, iI_mul, iI_neg, iL_add, iL_sub, iL_mul, iL_neg, iI_lt, iI_le, iI_eq, iL_lt, iL_le, iL_eqS, iI_c, iI_ok, iI_l, iL_i, iI_low, l_ushrI, l_shlI, l_shrI, i_shlI, i_shrI, i_ushrI, iI_div, iL_div, Int.toNat_natCast, Int.reduceToNat, iI_ofNat]; omega)]
        have hne := ne_spec h0 (by omega) (d := (Q - t).toNat) (by omega) (by omega)
        rw [show (((Q - t).toNat : Nat) : Int) = Q - t by omega] at hne
        rw [hne, Option.bind_some]
        have := neV_b h0 (Q - t).toNat
        exact r69_spec hs hQ0 (by omega) this.1 (by omega)
