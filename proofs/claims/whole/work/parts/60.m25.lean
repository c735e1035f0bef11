-- XY
set_option maxRecDepth 10000 in
theorem fu_big : 1000000 ≤ gx_fu := by decide +kernel
set_option maxRecDepth 10000 in
def layP (w : Int) (T : List Int32) (lf : Prop) [Decidable lf] : List Int32 := if lf then T ++ spE (w - T.length) (iI 32) else spE (w - T.length) (iI 32) ++ T
set_option maxRecDepth 10000 in
theorem pad87 {e k n : Nat} (hw : e + k + n ≤ 400000) {held wd : Int32} (hwd : wd = iI ((k + n : Nat) : Int)) (fc : Nat → Int32) {bl : Nat} (hbl : e + k + n ≤ bl) (hb2 : bl ≤ 800000) :
    ∀ (d i m : Nat) (c : Nat → Int32), i + d = k → d < m → (∀ j, j < i → c (e + j) = iI 32) → ∃ c', f_Md_padded_87 m (iI e) (iI n) (iI i) held wd fc c bl = some (held, c', bl) ∧ (∀ j, j < k → c' (e + j) = iI 32) ∧ ∀ j, j < e ∨ e + k ≤ j → c' j = c j
  | 0, i, m + 1, c, hi, hm, hc => by
    rw [f_Md_padded_87, hwd, iI_sub, if_pos (show iI (((k + n : Nat) : Int) - n) ≤ iI (i : Int) from by simp (disch := omega) only [iI_lit, iL_lit, iI_add, iI_sub, iI_mul, iI_neg, iL_add, iL_sub, iL_mul, iL_neg, iI_lt, iI_le, iI_eq, iL_lt, iL_le, iL_eqS, iI_c, iI_ok, iI_l, iL_i, iI_low, l_ushrI, l_shlI, l_shrI, i_shlI, i_shrI, i_ushrI, iI_div, iL_div, Int.toNat_natCast, Int.reduceToNat, iI_ofNat]; omega)]
    exact ⟨c, rfl, fun j hj => hc j (by omega), fun _ _ => rfl⟩
  | d + 1, i, m + 1, c, hi, hm, hc => by
    rw [f_Md_padded_87]
    rw [if_neg (show ¬ wd - iI (n : Int) ≤ iI (i : Int) from by rw [hwd, iI_sub]; simp (disch := omega) only [iI_lit, iL_lit, iI_add, iI_sub, iI_mul, iI_neg, iL_add, iL_sub, iL_mul, iL_neg, iI_lt, iI_le, iI_eq, iL_lt, iL_le, iL_eqS, iI_c, iI_ok, iI_l, iL_i, iI_low, l_ushrI, l_shlI, l_shrI, i_shlI, i_shrI, i_ushrI, iI_div, iL_div, Int.toNat_natCast, Int.reduceToNat, iI_ofNat]; omega), iI_add, if_pos (show gx_ok (iI ((e : Int) + i)) bl = true from by simp (disch := omega) only [iI_lit, iL_lit, iI_add, iI_sub, iI_mul, iI_neg, iL_add, iL_sub, iL_mul, iL_neg, iI_lt, iI_le, iI_eq, iL_lt, iL_le, iL_eqS, iI_c, iI_ok, iI_l, iL_i, iI_low, l_ushrI, l_shlI, l_shrI, i_shlI, i_shrI, i_ushrI, iI_div, iL_div, Int.toNat_natCast, Int.reduceToNat, iI_ofNat]; omega), iI_c (by omega) (by omega), show ((e : Int) + i).toNat = e + i by omega]
    rw [show iI (i : Int) + 1 = iI ((i + 1 : Nat) : Int) from by rw [show (1 : Int32) = iI 1 from rfl, iI_add]; rfl]
    obtain ⟨c', e1, g1, g2⟩ := pad87 hw hwd fc hbl hb2 d (i + 1) m (upd c (e + i) (vp_nar .byte (32 : Int32))) (by omega) (by omega) (fun j hj => by
      by_cases w : j = i
      · rw [w, upd_s]; decide
      · rw [upd_n (by omega)]; exact hc j (by omega))
    refine ⟨c', e1, g1, fun j hj => ?_⟩
    rw [g2 j hj, upd_n (by omega)]
set_option maxRecDepth 10000 in
theorem pad52 {e k n : Nat} (hk : 1 ≤ k) (hw : e + k + n ≤ 400000) {held wd : Int32} (hwd : wd = iI ((k + n : Nat) : Int)) (fc : Nat → Int32) {bl : Nat} (hbl : e + k + n ≤ bl) (hb2 : bl ≤ 800000) (tf : Nat → Int32) (hsb : ∀ i, i < n → sb (tf i) = tf i) :
    ∀ (j m : Nat) (c : Nat → Int32), j ≤ n → j < m → (∀ i, i < j → c (e + i) = tf i) → (∀ i, j ≤ i → i < n → c (e + k + i) = tf i) → ∃ c', f_Md_padded_52 m (iI e) (iI n) (iI ((j : Int) - 1)) held wd fc c bl = some (held, c', bl) ∧ (∀ i, i < k → c' (e + i) = iI 32) ∧ (∀ i, i < n → c' (e + k + i) = tf i) ∧ ∀ i, i < e → c' i = c i
  | 0, m + 1, c, hj, hm, h1, h2 => by
    rw [f_Md_padded_52, if_pos (show iI (((0 : Nat) : Int) - 1) < 0 from by decide)]
    obtain ⟨c', e1, g1, g2⟩ := pad87 hw hwd fc hbl hb2 k 0 gx_fu c (by omega) (by have := fu_big; omega) (fun i hi => absurd hi (by omega)) (held := held)
    have e1' : f_Md_padded_87 gx_fu (iI e) (iI n) (0 : Int32) held wd fc c bl = some (held, c', bl) := e1
    refine ⟨c', e1', g1, fun i hi => ?_, fun i hi => g2 i (by omega)⟩
    rw [g2 _ (by omega)]
    exact h2 i (by omega) hi
  | j + 1, m + 1, c, hj, hm, h1, h2 => by
    rw [f_Md_padded_52, if_neg (show ¬ iI (((j + 1 : Nat) : Int) - 1) < 0 from by simp (disch := omega) only [iI_lit, iL_lit, iI_add, iI_sub, iI_mul, iI_neg, iL_add, iL_sub, iL_mul, iL_neg, iI_lt, iI_le, iI_eq, iL_lt, iL_le, iL_eqS, iI_c, iI_ok, iI_l, iL_i, iI_low, l_ushrI, l_shlI, l_shrI, i_shlI, i_shrI, i_ushrI, iI_div, iL_div, Int.toNat_natCast, Int.reduceToNat, iI_ofNat]; omega), iI_add]
    rw [if_pos (show gx_ok (iI ((e : Int) + (((j + 1 : Nat) : Int) - 1))) bl = true from by simp (disch := omega) only [iI_lit, iL_lit, iI_add, iI_sub, iI_mul, iI_neg, iL_add, iL_sub, iL_mul, iL_neg, iI_lt, iI_le, iI_eq, iL_lt, iL_le, iL_eqS, iI_c, iI_ok, iI_l, iL_i, iI_low, l_ushrI, l_shlI, l_shrI, i_shlI, i_shrI, i_ushrI, iI_div, iL_div, Int.toNat_natCast, Int.reduceToNat, iI_ofNat]; omega)]
    have e3 : iI (e : Int) + wd - iI (n : Int) + iI (((j + 1 : Nat) : Int) - 1) = iI ((e + k + j : Nat) : Int) := by
      rw [hwd, iI_add, iI_sub, iI_add]; congr 1; omega
    rw [e3, if_pos (show gx_ok (iI ((e + k + j : Nat) : Int)) bl = true from by simp (disch := omega) only [iI_lit, iL_lit, iI_add, iI_sub, iI_mul, iI_neg, iL_add, iL_sub, iL_mul, iL_neg, iI_lt, iI_le, iI_eq, iL_lt, iL_le, iL_eqS, iI_c, iI_ok, iI_l, iL_i, iI_low, l_ushrI, l_shlI, l_shrI, i_shlI, i_shrI, i_ushrI, iI_div, iL_div, Int.toNat_natCast, Int.reduceToNat, iI_ofNat]; omega), iI_c (by omega) (by omega), iI_c (by omega) (by omega), show ((e : Int) + (((j + 1 : Nat) : Int) - 1)).toNat = e + j by omega, Int.toNat_natCast, h1 j (by omega), nar_bs, hsb j (by omega)]
    rw [show (-1 : Int32) = iI (-1) from rfl, iI_add, show ((j + 1 : Nat) : Int) - 1 + -1 = (j : Int) - 1 by omega]
    obtain ⟨c', e1, g1, g2, g3⟩ := pad52 hk hw hwd fc hbl hb2 tf hsb j m (upd c (e + k + j) (tf j)) (by omega) (by omega) (fun i hi => by rw [upd_n (by omega)]; exact h1 i (by omega)) (fun i hi hi2 => by
      by_cases w : i = j
      · rw [w, upd_s]
      · rw [upd_n (by omega)]; exact h2 i (by omega) hi2)
    refine ⟨c', e1, g1, g2, fun i hi => ?_⟩
    rw [g3 i hi, upd_n (by omega)]
set_option maxRecDepth 10000 in
theorem get_app3 {A B C : List Int32} {i : Nat} {x : Int32} (h : (A ++ B ++ C)[i]? = some x) : (i < A.length ∧ A[i]? = some x) ∨ (A.length ≤ i ∧ i < A.length + B.length ∧ B[i - A.length]? = some x) ∨ (A.length + B.length ≤ i ∧ C[i - (A.length + B.length)]? = some x) := by
  by_cases q : i < (A ++ B).length
  · rw [List.getElem?_append_left q] at h
    by_cases r : i < A.length
    · rw [List.getElem?_append_left r] at h
      exact Or.inl ⟨r, h⟩
    · rw [List.getElem?_append_right (by omega)] at h
      simp at q
      exact Or.inr (Or.inl ⟨by omega, by omega, h⟩)
  · rw [List.getElem?_append_right (by omega)] at h
    simp at q h
    exact Or.inr (Or.inr ⟨by omega, h⟩)
set_option maxRecDepth 10000 in
theorem pad18 {L : Nat} (hL2 : L ≤ 200000) {E T : List Int32} {w : Nat} (hE : E.length + w < L) (fc : Nat → Int32) (hTw : T.length < w) :
    ∀ (d i m : Nat) (h : Int32) (c : Nat → Int32) (bl : Nat), i + d = w → T.length ≤ i → d < m → MB h c bl (E ++ T ++ List.replicate (i - T.length) (iI 32)) → bl ≤ 400000 → OUT (fun r : Int32 × (Nat → Int32) × Nat => r.2.2) (f_Md_padded_18 m (iI E.length) (iI T.length) (iI i) h (iI w) fc c bl) bl L (fun r => MB r.1 r.2.1 r.2.2 (E ++ layP w T (¬ fc 0 ≤ 0)))
  | 0, i, m + 1, h, c, bl, hi, hTi, hm, hM, hbl => by
    have hiw : i = w := by omega
    subst hiw
    rw [f_Md_padded_18, if_pos (show iI (i : Int) ≤ iI (i : Int) from by simp (disch := omega) only [iI_lit, iL_lit, iI_add, iI_sub, iI_mul, iI_neg, iL_add, iL_sub, iL_mul, iL_neg, iI_lt, iI_le, iI_eq, iL_lt, iL_le, iL_eqS, iI_c, iI_ok, iI_l, iL_i, iI_low, l_ushrI, l_shlI, l_shrI, i_shlI, i_shrI, i_ushrI, iI_div, iL_div, Int.toNat_natCast, Int.reduceToNat, iI_ofNat]; omega), if_pos (show gx_ok (0 : Int32) 7 = true from by decide)]
    have hk : ((i : Int) - T.length).toNat = i - T.length := by omega
    unfold layP spE
    rw [hk]
    show OUT _ (if fc 0 ≤ 0 then _ else _) bl L _
    by_cases q : fc 0 ≤ 0
    · rw [if_pos q]
      rw [if_neg (fun x => x q)]
      obtain ⟨hh, hlb, hb0, hc, hs⟩ := hM
      have hlen : (E ++ T ++ List.replicate (i - T.length) (iI 32)).length = E.length + i := by simp; omega
      rw [hlen] at hh hlb
      have hsbT : ∀ x ∈ T, sb x = x := fun x hx => hs x (by simp [hx])
      obtain ⟨c', e1, g1, g2, g3⟩ := pad52 (e := E.length) (k := i - T.length) (n := T.length) (by omega) (by omega) (held := h) (wd := iI (i : Int)) (by congr 2; omega) fc (bl := bl) (by omega) (by omega) (fun j => T[j]?.getD 0) (fun j hj => by
        rw [List.getElem?_eq_getElem hj]; exact hsbT _ (List.getElem_mem hj)) T.length gx_fu c (Nat.le_refl _) (by have := fu_big; omega) (fun j hj => by
        have : (E ++ T ++ List.replicate (i - T.length) (iI 32))[E.length + j]? = some T[j] := by
          rw [List.append_assoc, List.getElem?_append_right (by omega), Nat.add_sub_cancel_left, List.getElem?_append_left hj, List.getElem?_eq_getElem hj]
        rw [hc _ _ this, List.getElem?_eq_getElem hj]; rfl) (fun j hj hj2 => by omega)
      rw [show (1 : Int32) = iI 1 from rfl, iI_sub, e1]
      refine ⟨_, rfl, Nat.le_refl _, Nat.le_max_left _ _, ?_, ?_, hb0, ?_, ?_⟩
      · show h = iI (E ++ (List.replicate (i - T.length) (iI 32) ++ T)).length
        rw [hh]; congr 2; simp; omega
      · show (E ++ (List.replicate (i - T.length) (iI 32) ++ T)).length ≤ bl
        simp; omega
      · intro j x hj
        show c' j = x
        have hj' : (E ++ List.replicate (i - T.length) (iI 32) ++ T)[j]? = some x := by rw [List.append_assoc]; exact hj
        rcases get_app3 hj' with ⟨a1, a2⟩ | ⟨a1, a2, a3⟩ | ⟨a1, a3⟩
        · rw [g3 j a1]
          apply hc
          rw [List.append_assoc, List.getElem?_append_left a1]; exact a2
        · simp at a2
          have := g1 (j - E.length) (by omega)
          rw [show E.length + (j - E.length) = j by omega] at this
          rw [this]
          rw [List.getElem?_replicate] at a3
          split at a3
          · simpa using a3
          · exact absurd a3 (by simp)
        · simp at a1 a3
          have hjT : j - (E.length + (i - T.length)) < T.length := by
            rcases Nat.lt_or_ge (j - (E.length + (i - T.length))) T.length with y | y
            · exact y
            · rw [List.getElem?_eq_none y] at a3; exact absurd a3 (by simp)
          have := g2 (j - (E.length + (i - T.length))) hjT
          rw [show E.length + (i - T.length) + (j - (E.length + (i - T.length))) = j by omega] at this
          rw [this, a3]; rfl
      · intro x hx
        apply hs
        simp at hx ⊢
        rcases hx with y | y | y
        · exact Or.inl y
        · exact Or.inr (Or.inr y)
        · exact Or.inr (Or.inl y)
    · rw [if_neg q]
      rw [if_pos q]
      refine ⟨_, rfl, Nat.le_refl _, Nat.le_max_left _ _, ?_⟩
      rw [← List.append_assoc]
      exact hM
  | d + 1, i, m + 1, h, c, bl, hi, hTi, hm, hM, hbl => by
    rw [f_Md_padded_18, if_neg (show ¬ iI (w : Int) ≤ iI (i : Int) from by simp (disch := omega) only [iI_lit, iL_lit, iI_add, iI_sub, iI_mul, iI_neg, iL_add, iL_sub, iL_mul, iL_neg, iI_lt, iI_le, iI_eq, iL_lt, iL_le, iL_eqS, iI_c, iI_ok, iI_l, iL_i, iI_low, l_ushrI, l_shlI, l_shrI, i_shlI, i_shrI, i_ushrI, iI_div, iL_div, Int.toNat_natCast, Int.reduceToNat, iI_ofNat]; omega)]
    refine OUT_bind (OUT_put hM (by simp; omega) hL2 hbl 32) (fun u hu h1 h2 => ?_)
    rw [show iI (i : Int) + 1 = iI ((i + 1 : Nat) : Int) from by rw [show (1 : Int32) = iI 1 from rfl, iI_add]; rfl]
    refine pad18 hL2 hE fc hTw d (i + 1) m u.1 u.2.1 u.2.2 (by omega) (by omega) (by omega) ?_ (by omega)
    have : List.replicate (i + 1 - T.length) (iI 32) = List.replicate (i - T.length) (iI 32) ++ [sb 32] := by
      rw [show i + 1 - T.length = i - T.length + 1 by omega, List.replicate_succ', show sb 32 = iI 32 from by decide]
    rw [this, ← List.append_assoc]
    exact hu
set_option maxRecDepth 10000 in
theorem padded_spec {L : Nat} (hL2 : L ≤ 150000) {E T : List Int32} {w : Int} (hw0 : -1 ≤ w) (hw1 : w ≤ 9999) (hE : E.length + 10000 < L) (hET : E.length + T.length < L) (fc : Nat → Int32) {h : Int32} {c : Nat → Int32} {bl : Nat} (hM : MB h c bl (E ++ T)) (hbl : bl ≤ 400000) :
    OUT (fun r : Int32 × (Nat → Int32) × Nat => r.2.2) (f_Md_padded (iI E.length) h (iI w) fc c bl) bl L (fun r => MB r.1 r.2.1 r.2.2 (E ++ layP w T (¬ fc 0 ≤ 0))) := by
  unfold f_Md_padded
  apply OUT_mo
  have hh : h - iI (E.length : Int) = iI (T.length : Int) := by
    rw [hM.1, iI_sub, List.length_append]; congr 1; omega
  rw [hh]
  by_cases q : (T.length : Int) < w
  · rw [if_pos (show iI (T.length : Int) < iI w from by simp (disch := omega) only [iI_lit, iL_lit, iI_add, iI_sub, iI_mul, iI_neg, iL_add, iL_sub, iL_mul, iL_neg, iI_lt, iI_le, iI_eq, iL_lt, iL_le, iL_eqS, iI_c, iI_ok, iI_l, iL_i, iI_low, l_ushrI, l_shlI, l_shrI, i_shlI, i_shrI, i_ushrI, iI_div, iL_div, Int.toNat_natCast, Int.reduceToNat, iI_ofNat]; omega)]
    obtain ⟨W, rfl⟩ : ∃ W : Nat, w = (W : Int) := ⟨w.toNat, by omega⟩
    refine pad18 (by omega) (by omega) fc (by omega) (W - T.length) T.length gx_fu h c bl (by omega) (by omega) (by have := fu_pos; omega) ?_ hbl
    rw [Nat.sub_self, List.replicate_zero, List.append_nil]
    exact hM
  · rw [if_neg (show ¬ iI (T.length : Int) < iI w from by simp (disch := omega) only [iI_lit, iL_lit, iI_add, iI_sub, iI_mul, iI_neg, iL_add, iL_sub, iL_mul, iL_neg, iI_lt, iI_le, iI_eq, iL_lt, iL_le, iL_eqS, iI_c, iI_ok, iI_l, iL_i, iI_low, l_ushrI, l_shlI, l_shrI, i_shlI, i_shrI, i_ushrI, iI_div, iL_div, Int.toNat_natCast, Int.reduceToNat, iI_ofNat]; omega)]
    refine ⟨_, rfl, Nat.le_refl _, Nat.le_max_left _ _, ?_⟩
    have : layP w T (¬ fc 0 ≤ 0) = T := by
      unfold layP spE
      rw [show (w - T.length).toNat = 0 by omega]
      simp
    rw [this]
    exact hM
-- XZ
set_option maxRecDepth 10000 in
abbrev πP (r : Int32 × (Nat → Int32) × Nat) : Nat := r.2.2
set_option maxRecDepth 10000 in
abbrev MB3 (E : List Int32) (r : Int32 × (Nat → Int32) × Nat) : Prop := MB r.1 r.2.1 r.2.2 E
set_option maxRecDepth 10000 in
theorem OUT_imp {τ : Type} {π : τ → Nat} {x : Option τ} {bl L : Nat} {P Q : τ → Prop} (h : OUT π x bl L P) (hpq : ∀ r, P r → Q r) : OUT π x bl L Q := by
  obtain ⟨r, e, h1, h2, h3⟩ := h
  exact ⟨r, e, h1, h2, hpq r h3⟩
set_option maxRecDepth 10000 in
theorem sg231 {L : Nat} (hL2 : L ≤ 150000) {E T : List Int32} {w : Int} (hw0 : -1 ≤ w) (hw1 : w ≤ 9999) (hE : E.length + 10000 < L) (hET : E.length + T.length < L) (fc : Nat → Int32) (ng no bo un : Int32) (yb : Nat → Int32) {h : Int32} {c : Nat → Int32} {bl : Nat} (hM : MB h c bl (E ++ T)) (hbl : bl ≤ 400000) :
    OUT πP (f_Md_signed_231 (iI E.length) h ng no fc bo (iI w) yb un c bl) bl L (MB3 (E ++ layP w T (¬ fc 0 ≤ 0))) := by
  unfold f_Md_signed_231
  exact OUT_bind (padded_spec hL2 hw0 hw1 hE hET fc hM hbl) (fun u hu h1 h2 => ⟨_, rfl, Nat.le_refl _, Nat.le_max_left _ _, hu⟩)
set_option maxRecDepth 10000 in
theorem sg195 {L : Nat} (hL2 : L ≤ 150000) {E Y : List Int32} {bo : Int32} {yb : Nat → Int32} (hY : TP bo yb Y) (hYl : Y.length < 12000) {w : Int} (hw0 : -1 ≤ w) (hw1 : w ≤ 9999) (hE : E.length + 10000 < L) (fc : Nat → Int32) (ng no un v3 : Int32) :
    ∀ (d j m : Nat) (T : List Int32) (h : Int32) (c : Nat → Int32) (bl : Nat), j + d = Y.length → d < m → MB h c bl (E ++ T) → E.length + T.length + d + 1 < L → bl ≤ 400000 → OUT πP (f_Md_signed_195 m (iI E.length) v3 (iI j) h ng no fc bo (iI w) yb un c bl) bl L (MB3 (E ++ layP w (T ++ (Y.drop j ++ (if v3 = 0 then [] else [iI 41]))) (¬ fc 0 ≤ 0)))
  | 0, j, m + 1, T, h, c, bl, hj, hm, hM, hL, hbl => by
    obtain ⟨hb, h2, h3⟩ := hY
    rw [f_Md_signed_195, if_pos (show bo ≤ iI (j : Int) from by rw [hb]; simp (disch := omega) only [iI_lit, iL_lit, iI_add, iI_sub, iI_mul, iI_neg, iL_add, iL_sub, iL_mul, iL_neg, iI_lt, iI_le, iI_eq, iL_lt, iL_le, iL_eqS, iI_c, iI_ok, iI_l, iL_i, iI_low, l_ushrI, l_shlI, l_shrI, i_shlI, i_shrI, i_ushrI, iI_div, iL_div, Int.toNat_natCast, Int.reduceToNat, iI_ofNat]; omega)]
    rw [List.drop_of_length_le (by omega), List.nil_append]
    by_cases q : v3 = 0
    · rw [if_pos q, if_pos q, List.append_nil]
      exact sg231 hL2 hw0 hw1 hE (by omega) fc ng no bo un yb hM hbl
    · rw [if_neg q, if_neg q]
      refine OUT_bind (OUT_put hM (by simp; omega) (by omega) hbl 41) (fun u hu g1 g2 => ?_)
      rw [List.append_assoc] at hu
      exact sg231 hL2 hw0 hw1 hE (by simp; omega) fc ng no bo un yb hu (by omega)
  | d + 1, j, m + 1, T, h, c, bl, hj, hm, hM, hL, hbl => by
    have hY' := hY
    obtain ⟨hb, h2, h3⟩ := hY
    have hjl : j < Y.length := by omega
    rw [f_Md_signed_195, if_neg (show ¬ bo ≤ iI (j : Int) from by rw [hb]; simp (disch := omega) only [iI_lit, iL_lit, iI_add, iI_sub, iI_mul, iI_neg, iL_add, iL_sub, iL_mul, iL_neg, iI_lt, iI_le, iI_eq, iL_lt, iL_le, iL_eqS, iI_c, iI_ok, iI_l, iL_i, iI_low, l_ushrI, l_shlI, l_shrI, i_shlI, i_shrI, i_ushrI, iI_div, iL_div, Int.toNat_natCast, Int.reduceToNat, iI_ofNat]; omega), if_pos (show gx_ok (iI (j : Int)) 12000 = true from by simp (disch := omega) only [iI_lit, iL_lit, iI_add, iI_sub, iI_mul, iI_neg, iL_add, iL_sub, iL_mul, iL_neg, iI_lt, iI_le, iI_eq, iL_lt, iL_le, iL_eqS, iI_c, iI_ok, iI_l, iL_i, iI_low, l_ushrI, l_shlI, l_shrI, i_shlI, i_shrI, i_ushrI, iI_div, iL_div, Int.toNat_natCast, Int.reduceToNat, iI_ofNat]; omega), iI_c (by omega) (by omega), Int.toNat_natCast, h2 j Y[j] (List.getElem?_eq_getElem hjl), show iI (j : Int) + 1 = iI ((j + 1 : Nat) : Int) from by rw [show (1 : Int32) = iI 1 from rfl, iI_add]; rfl]
    refine OUT_bind (OUT_put hM (by simp; omega) (by omega) hbl Y[j]) (fun u hu g1 g2 => ?_)
    rw [h3 Y[j] (List.getElem_mem hjl), List.append_assoc] at hu
    have := sg195 hL2 hY' hYl hw0 hw1 hE fc ng no un v3 d (j + 1) m (T ++ [Y[j]]) u.1 u.2.1 u.2.2 (by omega) (by omega) hu (by simp; omega) (by omega)
    rw [List.append_assoc T, ← List.append_assoc [Y[j]], List.singleton_append, List.getElem_cons_drop] at this
    exact this
set_option maxRecDepth 10000 in
theorem sg171 {L : Nat} (hL2 : L ≤ 150000) {E Y : List Int32} {bo : Int32} {yb : Nat → Int32} (hY : TP bo yb Y) (hYl : Y.length < 12000) {w : Int} (hw0 : -1 ≤ w) (hw1 : w ≤ 9999) (hE : E.length + 10000 < L) (fc : Nat → Int32) (ng no un v3 : Int32) {f : Nat} (hf : f ≤ Y.length) :
    ∀ (d m : Nat) (v : Int) (T : List Int32) (h : Int32) (c : Nat → Int32) (bl : Nat), 0 ≤ v → v ≤ 40000 → (d : Int) = ((w - v).toNat : Int) → d < m → MB h c bl (E ++ T) → E.length + T.length + d + Y.length + 1 < L → bl ≤ 400000 → OUT πP (f_Md_signed_171 m (iI f) (iI E.length) v3 (iI v) h ng no fc bo (iI w) yb un c bl) bl L (MB3 (E ++ layP w (T ++ (spE (w - v) (iI 48) ++ (Y.drop f ++ (if v3 = 0 then [] else [iI 41])))) (¬ fc 0 ≤ 0)))
  | 0, m + 1, v, T, h, c, bl, v0, v1, hd, hm, hM, hL, hbl => by
    rw [f_Md_signed_171, if_pos (show iI w ≤ iI v from by simp (disch := omega) only [iI_lit, iL_lit, iI_add, iI_sub, iI_mul, iI_neg, iL_add, iL_sub, iL_mul, iL_neg, iI_lt, iI_le, iI_eq, iL_lt, iL_le, iL_eqS, iI_c, iI_ok, iI_l, iL_i, iI_low, l_ushrI, l_shlI, l_shrI, i_shlI, i_shrI, i_ushrI, iI_div, iL_div, Int.toNat_natCast, Int.reduceToNat, iI_ofNat]; omega)]
    unfold f_Md_signed_192
    have : spE (w - v) (iI 48) = [] := spE_neg (by omega) _
    rw [this, List.nil_append]
    exact sg195 hL2 hY hYl hw0 hw1 hE fc ng no un v3 (Y.length - f) f gx_fu T h c bl (by omega) (by have := fu_big; omega) hM (by omega) hbl
  | d + 1, m + 1, v, T, h, c, bl, v0, v1, hd, hm, hM, hL, hbl => by
    rw [f_Md_signed_171, if_neg (show ¬ iI w ≤ iI v from by simp (disch := omega) only [iI_lit, iL_lit, iI_add, iI_sub, iI_mul, iI_neg, iL_add, iL_sub, iL_mul, iL_neg, iI_lt, iI_le, iI_eq, iL_lt, iL_le, iL_eqS, iI_c, iI_ok, iI_l, iL_i, iI_low, l_ushrI, l_shlI, l_shrI, i_shlI, i_shrI, i_ushrI, iI_div, iL_div, Int.toNat_natCast, Int.reduceToNat, iI_ofNat]; omega)]
    refine OUT_bind (OUT_put hM (by simp; omega) (by omega) hbl 48) (fun u hu g1 g2 => ?_)
    rw [List.append_assoc, show sb 48 = iI 48 from by decide] at hu
    have ev : iI v + 1 = iI (v + 1) := by rw [show (1 : Int32) = iI 1 from rfl, iI_add]
    rw [ev]
    have := sg171 hL2 hY hYl hw0 hw1 hE fc ng no un v3 hf d m (v + 1) (T ++ [iI 48]) u.1 u.2.1 u.2.2 (by omega) (by omega) (by omega) (by omega) hu (by simp; omega) (by omega)
    have e : spE (w - v) (iI 48) = [iI 48] ++ spE (w - (v + 1)) (iI 48) := by
      unfold spE
      rw [show (w - v).toNat = (w - (v + 1)).toNat + 1 by omega, List.replicate_succ]; rfl
    rw [e]
    rw [List.append_assoc T] at this
    rw [List.append_assoc [iI 48]]
    exact this
set_option maxRecDepth 10000 in
theorem sg107 {L : Nat} (hL2 : L ≤ 150000) {E Y : List Int32} {bo : Int32} {yb : Nat → Int32} (hY : TP bo yb Y) (hYl : Y.length < 12000) {w : Int} (hw0 : -1 ≤ w) (hw1 : w ≤ 9999) (hE : E.length + 30000 < L) (fc : Nat → Int32) (ng no un v3 : Int32) (hv3 : v3 = 0 ∨ v3 = 1) {f : Nat} (hf : f ≤ Y.length) (hf2 : f ≤ 2) :
    ∀ (d j m : Nat) (T : List Int32) (h : Int32) (c : Nat → Int32) (bl : Nat), j + d = f → d < m → MB h c bl (E ++ T) → T.length + d ≤ 10 → bl ≤ 400000 → OUT πP (f_Md_signed_107 m (iI f) (iI E.length) v3 (iI j) h ng no fc bo (iI w) yb un c bl) bl L (MB3 (E ++ layP w (T ++ ((Y.take f).drop j ++ ((if ¬ fc 4 ≤ 0 ∧ un = 0 then spE (w - (T.length + d : Nat) - (Y.length - f : Nat) - (if v3 = 0 then 0 else 1)) (iI 48) else []) ++ (Y.drop f ++ (if v3 = 0 then [] else [iI 41]))))) (¬ fc 0 ≤ 0)))
  | 0, j, m + 1, T, h, c, bl, hj, hm, hM, hT, hbl => by
    have hY' := hY
    obtain ⟨hb, h2, h3⟩ := hY
    have hh := hM.1
    rw [f_Md_signed_107, if_pos (show iI (f : Int) ≤ iI (j : Int) from by simp (disch := omega) only [iI_lit, iL_lit, iI_add, iI_sub, iI_mul, iI_neg, iL_add, iL_sub, iL_mul, iL_neg, iI_lt, iI_le, iI_eq, iL_lt, iL_le, iL_eqS, iI_c, iI_ok, iI_l, iL_i, iI_low, l_ushrI, l_shlI, l_shrI, i_shlI, i_shrI, i_ushrI, iI_div, iL_div, Int.toNat_natCast, Int.reduceToNat, iI_ofNat]; omega), if_pos (show gx_ok (4 : Int32) 7 = true from by decide)]
    have hdr : (Y.take f).drop j = [] := List.drop_of_length_le (by simp; omega)
    rw [hdr, List.nil_append]
    unfold f_Md_signed_168 f_Md_signed_192
    have none : OUT πP (f_Md_signed_195 gx_fu (iI E.length) v3 (iI f) h ng no fc bo (iI w) yb un c bl) bl L (MB3 (E ++ layP w (T ++ (Y.drop f ++ (if v3 = 0 then [] else [iI 41]))) (¬ fc 0 ≤ 0))) :=
      sg195 hL2 hY' hYl hw0 hw1 (by omega) fc ng no un v3 (Y.length - f) f gx_fu T h c bl (by omega) (by have := fu_big; omega) hM (by omega) hbl
    show OUT πP (if fc 4 ≤ 0 then _ else _) bl L _
    by_cases q4 : fc 4 ≤ 0
    · rw [if_pos q4, if_neg (show ¬ (¬ fc 4 ≤ 0 ∧ un = 0) from fun x => x.1 q4), List.nil_append]
      exact none
    · rw [if_neg q4]
      by_cases qu : un = 0
      · rw [if_pos qu, if_pos (show ¬ fc 4 ≤ 0 ∧ un = 0 from ⟨q4, qu⟩)]
        have hval : h - iI (E.length : Int) + bo - iI (f : Int) = iI ((T.length : Int) + (Y.length - f : Nat)) := by
          rw [hh, hb, iI_sub, iI_add, iI_sub, List.length_append]; congr 1; omega
        rw [hval]
        rcases hv3 with rfl | rfl
        · rw [if_pos rfl, show (0 : Int32) = iI 0 from rfl, iI_add]
          have := sg171 hL2 hY' hYl hw0 hw1 (by omega) fc ng no un 0 hf ((w - ((T.length : Int) + (Y.length - f : Nat) + 0)).toNat) gx_fu ((T.length : Int) + (Y.length - f : Nat) + 0) T h c bl (by omega) (by omega) rfl (by have := fu_big; omega) hM (by omega) hbl
          rw [show w - ((T.length : Int) + (Y.length - f : Nat) + 0) = w - ((T.length + 0 : Nat) : Int) - (Y.length - f : Nat) - (if (0 : Int32) = 0 then 0 else 1) by rw [if_pos rfl]; omega] at this
          exact this
        · rw [if_neg (show ¬ (1 : Int32) = 0 from by decide), show (1 : Int32) = iI 1 from rfl, iI_add]
          have := sg171 hL2 hY' hYl hw0 hw1 (by omega) fc ng no un 1 hf ((w - ((T.length : Int) + (Y.length - f : Nat) + 1)).toNat) gx_fu ((T.length : Int) + (Y.length - f : Nat) + 1) T h c bl (by omega) (by omega) rfl (by have := fu_big; omega) hM (by omega) hbl
          rw [show w - ((T.length : Int) + (Y.length - f : Nat) + 1) = w - ((T.length + 0 : Nat) : Int) - (Y.length - f : Nat) - (if (1 : Int32) = 0 then 0 else 1) by rw [if_neg (by decide)]; omega] at this
          exact this
      · rw [if_neg qu, if_neg (show ¬ (¬ fc 4 ≤ 0 ∧ un = 0) from fun x => qu x.2), List.nil_append]
        exact none
  | d + 1, j, m + 1, T, h, c, bl, hj, hm, hM, hT, hbl => by
    have hY' := hY
    obtain ⟨hb, h2, h3⟩ := hY
    have hjl : j < Y.length := by omega
    rw [f_Md_signed_107, if_neg (show ¬ iI (f : Int) ≤ iI (j : Int) from by simp (disch := omega) only [iI_lit, iL_lit, iI_add, iI_sub, iI_mul, iI_neg, iL_add, iL_sub, iL_mul, iL_neg, iI_lt, iI_le, iI_eq, iL_lt, iL_le, iL_eqS, iI_c, iI_ok, iI_l, iL_i, iI_low, l_ushrI, l_shlI, l_shrI, i_shlI, i_shrI, i_ushrI, iI_div, iL_div, Int.toNat_natCast, Int.reduceToNat, iI_ofNat]; omega), if_pos (show gx_ok (iI (j : Int)) 12000 = true from by simp (disch := omega) only [iI_lit, iL_lit, iI_add, iI_sub, iI_mul, iI_neg, iL_add, iL_sub, iL_mul, iL_neg, iI_lt, iI_le, iI_eq, iL_lt, iL_le, iL_eqS, iI_c, iI_ok, iI_l, iL_i, iI_low, l_ushrI, l_shlI, l_shrI, i_shlI, i_shrI, i_ushrI, iI_div, iL_div, Int.toNat_natCast, Int.reduceToNat, iI_ofNat]; omega), iI_c (by omega) (by omega), Int.toNat_natCast, h2 j Y[j] (List.getElem?_eq_getElem hjl), show iI (j : Int) + 1 = iI ((j + 1 : Nat) : Int) from by rw [show (1 : Int32) = iI 1 from rfl, iI_add]; rfl]
    refine OUT_bind (OUT_put hM (by simp; omega) (by omega) hbl Y[j]) (fun u hu g1 g2 => ?_)
    rw [h3 Y[j] (List.getElem_mem hjl), List.append_assoc] at hu
    have := sg107 hL2 hY' hYl hw0 hw1 hE fc ng no un v3 hv3 hf hf2 d (j + 1) m (T ++ [Y[j]]) u.1 u.2.1 u.2.2 (by omega) (by omega) hu (by simp; omega) (by omega)
    have hlt : j < (Y.take f).length := by simp; omega
    have he : (Y.take f)[j] = Y[j] := by simp
    have e1 : (Y.take f).drop j = [Y[j]] ++ (Y.take f).drop (j + 1) := by
      rw [← List.getElem_cons_drop hlt, he]; rfl
    rw [e1]
    have e2 : ((T ++ [Y[j]]).length + d : Nat) = T.length + (d + 1) := by simp; omega
    rw [e2, List.append_assoc T] at this
    rw [List.append_assoc [Y[j]]]
    exact this
-- UA
set_option maxRecDepth 10000 in
theorem spE_len (k : Int) (x : Int32) : (spE k x).length = k.toNat := by unfold spE; simp
set_option maxRecDepth 10000 in
theorem layP_T {w : Int} {H B : List Int32} (cl zr lf : Prop) [Decidable cl] [Decidable zr] [Decidable lf] (h : ¬ (zr ∧ lf)) :
    layP w (H ++ ((if zr then spE (w - H.length - B.length - (if cl then 1 else 0)) (iI 48) else []) ++ (B ++ (if cl then [iI 41] else [])))) lf = layT w H B cl False zr lf := by
  have hup : ∀ E : List Int32, upE False E = E := fun E => by unfold upE; rw [if_neg (fun x => x)]
  unfold layP layT
  rw [hup, hup]
  by_cases qz : zr
  · have ql : ¬ lf := fun x => h ⟨qz, x⟩
    simp only [if_pos qz, if_neg ql]
    rw [if_neg (show ¬ (¬ lf ∧ ¬ zr) from fun x => x.2 qz)]
    have hlen : spE (w - ((H ++ (spE (w - H.length - B.length - (if cl then 1 else 0)) (iI 48) ++ (B ++ (if cl then [iI 41] else []))) : List Int32)).length) (iI 32) = [] := by
      apply spE_neg
      simp only [List.length_append, spE_len]
      by_cases qc : cl
      · rw [if_pos qc, if_pos qc]; simp; omega
      · rw [if_neg qc, if_neg qc]; simp; omega
    rw [hlen]
    simp
  · simp only [if_neg qz, List.nil_append]
    have hl : (w - ((H ++ (B ++ (if cl then [iI 41] else []))) : List Int32).length : Int) = w - H.length - B.length - (if cl then 1 else 0) := by
      by_cases qc : cl
      · rw [if_pos qc, if_pos qc]; simp; omega
      · rw [if_neg qc, if_neg qc]; simp; omega
    rw [hl]
    by_cases ql : lf
    · rw [if_pos ql, if_pos ql, if_neg (show ¬ (¬ lf ∧ ¬ zr) from fun x => x.1 ql)]
      simp
    · rw [if_neg ql, if_neg ql, if_pos (show ¬ lf ∧ ¬ zr from ⟨ql, qz⟩)]
      simp
set_option maxRecDepth 10000 in
def sgM (ng no : Int32) (fc : Nat → Int32) : List Int32 := if ng = 0 then (if no = 0 then (if fc 2 ≤ 0 then (if fc 3 ≤ 0 then [] else [iI 32]) else [iI 43]) else []) else (if fc 6 ≤ 0 then [iI 45] else [iI 40])
set_option maxRecDepth 10000 in
abbrev rdM (ng : Int32) (fc : Nat → Int32) : Prop := ng ≠ 0 ∧ ¬ fc 6 ≤ 0
set_option maxRecDepth 10000 in
theorem sgM_len (ng no : Int32) (fc : Nat → Int32) : (sgM ng no fc).length ≤ 1 := by
  unfold sgM
  repeat' split
  all_goals simp
set_option maxRecDepth 10000 in
theorem signed_spec {L : Nat} (hL2 : L ≤ 150000) {E Y : List Int32} {bo : Int32} {yb : Nat → Int32} (hY : TP bo yb Y) (hYl : Y.length < 12000) {w : Int} (hw0 : -1 ≤ w) (hw1 : w ≤ 9999) (hE : E.length + 30000 < L) (fc : Nat → Int32) (ng no un : Int32) {f : Nat} (hf : f ≤ Y.length) (hf2 : f ≤ 2) (hzl : ¬ ((¬ fc 4 ≤ 0 ∧ un = 0) ∧ ¬ fc 0 ≤ 0)) {h : Int32} {c : Nat → Int32} {bl : Nat} (hM : MB h c bl E) (hbl : bl ≤ 400000) :
    OUT πP (f_Md_signed (iI f) h ng no fc bo (iI w) yb un c bl) bl L (MB3 (E ++ layT w (sgM ng no fc ++ Y.take f) (Y.drop f) (rdM ng fc) False (¬ fc 4 ≤ 0 ∧ un = 0) (¬ fc 0 ≤ 0))) := by
  -- behind the sign
  have tail : ∀ (v3 : Int32) (T : List Int32) (h' : Int32) (c' : Nat → Int32) (bl' : Nat), (v3 = if rdM ng fc then 1 else 0) → T = sgM ng no fc → MB h' c' bl' (E ++ T) → bl' ≤ 400000 → OUT πP (f_Md_signed_104 (iI f) h v3 h' ng no fc bo (iI w) yb un c' bl') bl' L (MB3 (E ++ layT w (sgM ng no fc ++ Y.take f) (Y.drop f) (rdM ng fc) False (¬ fc 4 ≤ 0 ∧ un = 0) (¬ fc 0 ≤ 0))) := by
    intro v3 T h' c' bl' hv3 hT hM' hbl'
    have hTl := sgM_len ng no fc
    rw [← hT] at hTl
    unfold f_Md_signed_104
    have key := sg107 hL2 hY hYl hw0 hw1 hE fc ng no un v3 (by rw [hv3]; split; exact Or.inr rfl; exact Or.inl rfl) hf hf2 f 0 gx_fu T h' c' bl' (by omega) (by have := fu_pos; omega) hM' (by omega) hbl'
    rw [hM.1]
    have e : layP w (T ++ ((Y.take f).drop 0 ++ ((if ¬ fc 4 ≤ 0 ∧ un = 0 then spE (w - (T.length + f : Nat) - (Y.length - f : Nat) - (if v3 = 0 then 0 else 1)) (iI 48) else []) ++ (Y.drop f ++ (if v3 = 0 then [] else [iI 41]))))) (¬ fc 0 ≤ 0) = layT w (sgM ng no fc ++ Y.take f) (Y.drop f) (rdM ng fc) False (¬ fc 4 ≤ 0 ∧ un = 0) (¬ fc 0 ≤ 0) := by
      rw [← layP_T (rdM ng fc) (¬ fc 4 ≤ 0 ∧ un = 0) (¬ fc 0 ≤ 0) hzl, ← hT, List.drop_zero, ← List.append_assoc T]
      have l1 : ((T ++ Y.take f).length : Int) = ((T.length + f : Nat) : Int) := by simp; omega
      have l2 : ((Y.drop f).length : Int) = ((Y.length - f : Nat) : Int) := by simp
      rw [l1, l2]
      by_cases q : rdM ng fc
      · rw [if_pos q] at hv3
        subst hv3
        rw [if_neg (show ¬ (1 : Int32) = 0 from by decide), if_neg (show ¬ (1 : Int32) = 0 from by decide), if_pos q, if_pos q]
      · rw [if_neg q] at hv3
        subst hv3
        rw [if_pos rfl, if_pos rfl, if_neg q, if_neg q]
    rw [e] at key
    exact key
  have put : ∀ (v3 : Int32) (x : Int), 0 ≤ x → x < 128 → (v3 = if rdM ng fc then 1 else 0) → sgM ng no fc = [iI x] → OUT πP ((f_Md_put (iI x) h c bl).bind fun u => gx_mo πP u.2.2 (if bl ≤ u.2.2 then f_Md_signed_104 (iI f) h v3 u.1 ng no fc bo (iI w) yb un u.2.1 u.2.2 else none)) bl L (MB3 (E ++ layT w (sgM ng no fc ++ Y.take f) (Y.drop f) (rdM ng fc) False (¬ fc 4 ≤ 0 ∧ un = 0) (¬ fc 0 ≤ 0))) := by
    intro v3 x x0 x1 hv3 hs
    refine OUT_bind (OUT_put hM (by omega) (by omega) hbl (iI x)) (fun u hu g1 g2 => ?_)
    rw [sb_small (by omega) (by omega)] at hu
    exact tail v3 [iI x] u.1 u.2.1 u.2.2 hv3 hs.symm hu (by omega)
  unfold f_Md_signed
  apply OUT_mo
  unfold f_Md_signed_26
  have g6 : gx_ok (6 : Int32) 7 = true := by decide
  have g2 : gx_ok (2 : Int32) 7 = true := by decide
  have g3 : gx_ok (3 : Int32) 7 = true := by decide
  rw [if_pos g6]
  show OUT πP (if ng = 0 then _ else (if fc 6 ≤ 0 then _ else _)) bl L _
  by_cases qn : ng = 0
  · have hrd : ¬ rdM ng fc := fun x => x.1 qn
    have hv0 : (0 : Int32) = if rdM ng fc then 1 else 0 := by rw [if_neg hrd]
    rw [if_pos qn]
    unfold f_Md_signed_27 f_Md_signed_82
    rw [if_pos rfl, if_pos qn, if_pos g2, if_pos g3]
    show OUT πP (if no = 0 then (if fc 2 ≤ 0 then (if no = 0 then (if fc 3 ≤ 0 then _ else _) else _) else _) else (if no = 0 then (if fc 3 ≤ 0 then _ else _) else _)) bl L _
    by_cases qo : no = 0
    · rw [if_pos qo, if_pos qo]
      by_cases q2 : fc 2 ≤ 0
      · rw [if_pos q2]
        by_cases q3 : fc 3 ≤ 0
        · rw [if_pos q3]
          exact tail 0 [] h c bl hv0 (by unfold sgM; rw [if_pos qn, if_pos qo, if_pos q2, if_pos q3]) (by rw [List.append_nil]; exact hM) hbl
        · rw [if_neg q3]
          exact put 0 32 (by omega) (by omega) hv0 (by unfold sgM; rw [if_pos qn, if_pos qo, if_pos q2, if_neg q3])
      · rw [if_neg q2]
        exact put 0 43 (by omega) (by omega) hv0 (by unfold sgM; rw [if_pos qn, if_pos qo, if_neg q2])
    · rw [if_neg qo, if_neg qo]
      exact tail 0 [] h c bl hv0 (by unfold sgM; rw [if_pos qn, if_neg qo]) (by rw [List.append_nil]; exact hM) hbl
  · rw [if_neg qn]
    unfold f_Md_signed_27
    by_cases q6 : fc 6 ≤ 0
    · rw [if_pos q6, if_pos rfl, if_neg qn]
      exact put 0 45 (by omega) (by omega) (by rw [if_neg (fun x => x.2 q6)]) (by unfold sgM; rw [if_neg qn, if_pos q6])
    · rw [if_neg q6, if_neg (show ¬ (1 : Int32) = 0 from by decide)]
      exact put 1 40 (by omega) (by omega) (by rw [if_pos ⟨qn, q6⟩]) (by unfold sgM; rw [if_neg qn, if_neg q6])
-- UB
set_option maxRecDepth 10000 in
theorem one_all : ∀ o : Fin 74, ∀ c : Fin 128, f_Md_one o.val (iI (c.val : Int)) = some (if iI (c.val : Int) ∈ gl_byt.getD o.val [] then 1 else 0) := by decide +kernel
set_option maxRecDepth 10000 in
abbrev inW (o : Nat) (cv : Int) : Prop := iI cv ∈ gl_byt.getD o []
set_option maxRecDepth 10000 in
theorem one_spec {o : Nat} (ho : o < 74) {cv : Int} (h0 : 0 ≤ cv) (h1 : cv < 128) : f_Md_one o (iI cv) = some (if inW o cv then 1 else 0) := by
  obtain ⟨c, rfl⟩ : ∃ c : Nat, cv = (c : Int) := ⟨cv.toNat, by omega⟩
  exact one_all ⟨o, ho⟩ ⟨c, by omega⟩
set_option maxRecDepth 10000 in
def rdxL (x : Int) (st : Nat) : Nat → List Int32
  | 0 => []
  | d + 1 => hxD (x / 2 ^ (st * d) % 2 ^ st) :: rdxL x st d
set_option maxRecDepth 10000 in
def RN (x : Int) (st d : Nat) : Prop := 1 ≤ d ∧ x < 2 ^ (st * d) ∧ (1 < d → 2 ^ (st * (d - 1)) ≤ x)
set_option maxRecDepth 10000 in
theorem RN_uniq {x : Int} {st a b : Nat} (ha : RN x st a) (hb : RN x st b) : a = b := by
  have key : ∀ {a b : Nat}, RN x st a → RN x st b → ¬ a < b := by
    intro a b ha hb h
    have h1 := ha.1
    have h2 := hb.2.2 (by omega)
    have h3 := ha.2.1
    have : (2 : Int) ^ (st * a) ≤ 2 ^ (st * (b - 1)) := p2_mono (Nat.mul_le_mul_left st (by omega))
    omega
  have := key ha hb
  have := key hb ha
  omega
set_option maxRecDepth 10000 in
theorem rdxL_len (x : Int) (st : Nat) : ∀ d, (rdxL x st d).length = d
  | 0 => rfl
  | d + 1 => by show (rdxL x st d).length + 1 = d + 1; rw [rdxL_len x st d]
set_option maxRecDepth 10000 in
theorem st_mask {st : Nat} (hst : st = 3 ∨ st = 4) : ((1 : Int32) <<< (iI (st : Int) &&& 31)) - 1 = iI (2 ^ st - 1) := by
  rcases hst with rfl | rfl <;> decide
set_option maxRecDepth 10000 in
theorem hx16 {st : Nat} (hst : st = 3 ∨ st = 4) (x : Int) : 0 ≤ x % 2 ^ st ∧ x % 2 ^ st < 16 := by
  rcases hst with rfl | rfl
  · rw [show (2 : Int) ^ 3 = 8 from rfl]; omega
  · rw [show (2 : Int) ^ 4 = 16 from rfl]; omega
set_option maxRecDepth 10000 in
theorem fb89 {n : Nat} (hn : n < 1000000) {x : Int} (x0 : 0 ≤ x) (x1 : x < 18446744073709551616) {st : Nat} (hst : st = 3 ∨ st = 4) (nh : Nat) (le fl hl ho : Int32) (hc : Nat → Int32) :
    ∀ (d k : Nat) (len over : Int32) (c : Nat → Int32) (E : List Int32), st * d ≤ 66 → d < k → BY n len over c E → ∃ len' over' c', f_Pr_fillBits_89 k (iL x) (iI st) (iI ((st : Int) * ((d : Int) - 1))) n nh le fl len hl over c ho hc = some (len', hl, over', c', ho, hc) ∧ BY n len' over' c' (E ++ rdxL x st d)
  | 0, k + 1, len, over, c, E, hd, hk, h => by
    rw [f_Pr_fillBits_89, if_pos (show iI ((st : Int) * (((0 : Nat) : Int) - 1)) < 0 from by rcases hst with rfl | rfl <;> decide)]
    show ∃ len' over' c', some (len, hl, over, c, ho, hc) = some (len', hl, over', c', ho, hc) ∧ BY n len' over' c' (E ++ [])
    rw [List.append_nil]
    exact ⟨len, over, c, rfl, h⟩
  | d + 1, k + 1, len, over, c, E, hd, hk, h => by
    have hsd : (st : Int) * (((d + 1 : Nat) : Int) - 1) = ((st * d : Nat) : Int) := by
      rw [show ((d + 1 : Nat) : Int) - 1 = (d : Int) by omega, Int.natCast_mul]
    have hm : st * (d + 1) = st * d + st := Nat.mul_succ st d
    have hst4 : 3 ≤ st ∧ st ≤ 4 := by rcases hst with rfl | rfl <;> omega
    have hd0 : 0 ≤ x / 2 ^ (st * d) := Int.ediv_nonneg x0 (Int.le_of_lt (p2_pos _))
    have hdl : x / 2 ^ (st * d) ≤ x := Int.ediv_le_self _ x0
    rw [f_Pr_fillBits_89, hsd, if_neg (show ¬ iI ((st * d : Nat) : Int) < 0 from by simp (disch := omega) only [iI_lit, iL_lit, iI_add, iI_sub, iI_mul, iI_neg, iL_add, iL_sub, iL_mul, iL_neg, iI_lt, iI_le, iI_eq, iL_lt, iL_le, iL_eqS, iI_c, iI_ok, iI_l, iL_i, iI_low, l_ushrI, l_shlI, l_shrI, i_shlI, i_shrI, i_ushrI, iI_div, iL_div, Int.toNat_natCast, Int.reduceToNat, iI_ofNat]; omega), iI_l (by omega) (by omega), show (63 : Int64) = iL 63 from rfl, l_ushrI (by omega) (by omega) x0 x1, Int.toNat_natCast, st_mask hst]
    have hp : (2 : Int) ^ st ≤ 16 := by rcases hst with rfl | rfl <;> decide
    have hp0 := p2_pos st
    rw [iI_l (by omega) (by omega), iL_mask hd0 (by omega) (by omega)]
    have hx := hx16 hst (x / 2 ^ (st * d))
    obtain ⟨l1, o1, c1, e1, b1⟩ := hxdig_spec hn (x := x / 2 ^ (st * d) % 2 ^ st) hx.1 h
    rw [e1, Option.bind_some, iI_sub, show ((st * d : Nat) : Int) - (st : Int) = (st : Int) * ((d : Int) - 1) by rw [Int.natCast_mul, Int.mul_sub, Int.mul_one]]
    obtain ⟨l2, o2, c2, e2, b2⟩ := fb89 hn x0 x1 hst nh le fl hl ho hc d k l1 o1 c1 _ (by omega) (by omega) b1
    refine ⟨l2, o2, c2, e2, ?_⟩
    rw [show x / 2 ^ (st * d) % 2 ^ st % 16 = x / 2 ^ (st * d) % 2 ^ st by omega, List.append_assoc] at b2
    exact b2
set_option maxRecDepth 10000 in
theorem fb63 {n : Nat} (hn : n < 1000000) {x : Int} (x0 : 0 ≤ x) (x1 : x < 18446744073709551616) {st : Nat} (hst : st = 3 ∨ st = 4) (nh : Nat) (le fl hl ho : Int32) (hc : Nat → Int32) {len over : Int32} {c : Nat → Int32} {E : List Int32} (h : BY n len over c E) :
    ∃ len' over' c' d, f_Pr_fillBits_63 (iL x) (iI st) n nh le fl len hl over c ho hc = some (len', hl, over', c', ho, hc) ∧ RN x st d ∧ d ≤ 22 ∧ BY n len' over' c' (E ++ rdxL x st d) := by
  obtain ⟨b, hb64, hb, hnl⟩ := nlzL_spec x0 x1
  unfold f_Pr_fillBits_63
  rw [hnl, Option.bind_some, show (64 : Int32) = iI 64 from rfl, show (1 : Int32) = iI 1 from rfl, iI_sub, show (64 : Int) - (64 - (b : Int)) = b by omega, max_spec (by omega) (by omega) (by omega) (by omega), Option.bind_some]
  have hst4 : 3 ≤ st ∧ st ≤ 4 := by rcases hst with rfl | rfl <;> omega
  rw [if_pos (show ¬ iI (st : Int) = 0 from by simp (disch := omega) only [iI_lit, iL_lit, iI_add, iI_sub, iI_mul, iI_neg, iL_add, iL_sub, iL_mul, iL_neg, iI_lt, iI_le, iI_eq, iL_lt, iL_le, iL_eqS, iI_c, iI_ok, iI_l, iL_i, iI_low, l_ushrI, l_shlI, l_shrI, i_shlI, i_shrI, i_ushrI, iI_div, iL_div, Int.toNat_natCast, Int.reduceToNat, iI_ofNat]; omega), iI_sub, iI_div (by omega) (by omega) (by omega) (by omega), iI_mul]
  have hdv : (max (b : Int) 1 - 1) / (st : Int) * (st : Int) = (st : Int) * ((((max b 1 - 1) / st + 1 : Nat) : Int) - 1) := by
    rw [Int.mul_comm]; congr 1
    have : (max (b : Int) 1 - 1) = ((max b 1 - 1 : Nat) : Int) := by omega
    rw [this]
    omega
  rw [hdv]
  have hle : (max b 1 - 1) / st * st ≤ max b 1 - 1 := Nat.div_mul_le_self _ _
  have hlt : max b 1 - 1 < (max b 1 - 1) / st * st + st := by
    have := Nat.div_add_mod (max b 1 - 1) st
    have := Nat.mod_lt (max b 1 - 1) (show 0 < st by omega)
    rw [Nat.mul_comm]; omega
  have hcm : st * ((max b 1 - 1) / st) = (max b 1 - 1) / st * st := Nat.mul_comm _ _
  have hms : st * ((max b 1 - 1) / st + 1) = st * ((max b 1 - 1) / st) + st := Nat.mul_succ st ((max b 1 - 1) / st)
  have hd22 : (max b 1 - 1) / st ≤ 21 := by
    rcases hst with rfl | rfl <;> omega
  obtain ⟨l1, o1, c1, e1, b1⟩ := fb89 hn x0 x1 hst nh le fl hl ho hc ((max b 1 - 1) / st + 1) gx_fu len over c E (by rcases hst with rfl | rfl <;> omega) (by have := fu_pos; omega) h
  refine ⟨l1, o1, c1, (max b 1 - 1) / st + 1, e1, ⟨Nat.le_add_left _ _, ?_, fun w => ?_⟩, by omega, b1⟩
  · have h1 := hb.1
    have : (2 : Int) ^ b ≤ 2 ^ (st * ((max b 1 - 1) / st + 1)) := p2_mono (by omega)
    omega
  · have hb0 : 0 < b := by
      rcases Nat.eq_zero_or_pos b with y | y
      · subst y
        simp at w
      · exact y
    have h1 := hb.2 hb0
    have : (2 : Int) ^ (st * ((max b 1 - 1) / st + 1 - 1)) ≤ 2 ^ (b - 1) := p2_mono (by rw [Nat.add_sub_cancel]; omega)
    omega
set_option maxRecDepth 10000 in
theorem spell2_loop {x : Int} (x0 : 0 ≤ x) (x1 : x < 18446744073709551616) {st : Nat} (hst : st = 3 ∨ st = 4) :
    ∀ (d n k : Nat) (sp : Nat → Int32), RN x st (n + d) → 1 ≤ d → n + d ≤ 30 → d ≤ k → (∀ j, j < n → sp j = hxD (x / 2 ^ (st * j) % 2 ^ st)) → ∃ sp', f_Md_spell2_6 k (iI st) (iI n) (iL (x / 2 ^ (st * n))) sp = some (iI ((n + d : Nat) : Int), sp') ∧ ∀ j, j < n + d → sp' j = hxD (x / 2 ^ (st * (n + d - 1 - j)) % 2 ^ st)
  | 0, n, k, sp, hR, hd, hn, hk, hs => by omega
  | d + 1, n, 0, sp, hR, hd, hn, hk, hs => by omega
  | d + 1, n, k + 1, sp, hR, hd, hn, hk, hs => by
    have hst4 : 3 ≤ st ∧ st ≤ 4 := by rcases hst with rfl | rfl <;> omega
    have hx0 : 0 ≤ x / 2 ^ (st * n) := Int.ediv_nonneg x0 (Int.le_of_lt (p2_pos _))
    have hxl : x / 2 ^ (st * n) ≤ x := Int.ediv_le_self _ x0
    have hdg : (iL (x / 2 ^ (st * n))).toInt32 &&& iI (2 ^ st - 1) = iI (x / 2 ^ (st * n) % 2 ^ st) := by
      rw [iL_i]; exact iI_mask (by omega)
    have hx := hx16 hst (x / 2 ^ (st * n))
    have hdd : x / 2 ^ (st * n) / 2 ^ st = x / 2 ^ (st * (n + 1)) := by
      rw [dv, Nat.mul_succ]
    have hq0 : 0 ≤ x / 2 ^ (st * (n + 1)) := Int.ediv_nonneg x0 (Int.le_of_lt (p2_pos _))
    have hql : x / 2 ^ (st * (n + 1)) ≤ x := Int.ediv_le_self _ x0
    have hsn : st * n ≤ 4 * 30 := Nat.mul_le_mul hst4.2 (by omega)
    rw [f_Md_spell2_6, st_mask hst, hdg]
    unfold f_Md_spell2_46
    have hok : gx_ok (iI (n : Int)) 72 = true := by simp (disch := omega) only [iI_lit, iL_lit, iI_add, iI_sub, iI_mul, iI_neg, iL_add, iL_sub, iL_mul, iL_neg, iI_lt, iI_le, iI_eq, iL_lt, iL_le, iL_eqS, iI_c, iI_ok, iI_l, iL_i, iI_low, l_ushrI, l_shlI, l_shrI, i_shlI, i_shrI, i_ushrI, iI_div, iL_div, Int.toNat_natCast, Int.reduceToNat, iI_ofNat]; omega
    rw [if_pos hok, if_pos hok, iI_l (by omega) (by omega), show (63 : Int64) = iL 63 from rfl, l_ushrI (by omega) (by omega) hx0 (by omega), Int.toNat_natCast, hdd, iI_c (by omega) (by omega), Int.toNat_natCast]
    rw [show iI (n : Int) + 1 = iI ((n + 1 : Nat) : Int) from by rw [show (1 : Int32) = iI 1 from rfl, iI_add]; rfl]
    have hz : (iL (x / 2 ^ (st * (n + 1))) = (0 : Int64)) = (x / 2 ^ (st * (n + 1)) = 0) := by rw [show (0 : Int64) = iL 0 from rfl, iL_eqU hq0 (by omega) (by omega) (by omega)]
    simp only [hz]
    -- the digit, whichever it is
    have fin : ∀ t0 : Int32, t0 = hxD (x / 2 ^ (st * n) % 2 ^ st) → ∃ sp', (if x / 2 ^ (st * (n + 1)) = 0 then ((f_Md_turn (iI ((n + 1 : Nat) : Int)) (upd sp n (vp_nar .byte t0.toInt8.toInt32))).bind fun u67 => some (iI ((n + 1 : Nat) : Int), u67)) else f_Md_spell2_6 k (iI st) (iI ((n + 1 : Nat) : Int)) (iL (x / 2 ^ (st * (n + 1)))) (upd sp n (vp_nar .byte t0.toInt8.toInt32))) = some (iI ((n + (d + 1) : Nat) : Int), sp') ∧ ∀ j, j < n + (d + 1) → sp' j = hxD (x / 2 ^ (st * (n + (d + 1) - 1 - j)) % 2 ^ st) := by
      intro t0 ht0
      have hsb : sb t0 = t0 := by rw [ht0]; exact sb_hx hx.1 hx.2
      rw [nar_b, hsb]
      have hs' : ∀ j, j < n + 1 → upd sp n t0 j = hxD (x / 2 ^ (st * j) % 2 ^ st) := by
        intro j hj
        by_cases w : j = n
        · rw [w, upd_s, ht0]
        · rw [upd_n w]; exact hs j (by omega)
      by_cases q : x / 2 ^ (st * (n + 1)) = 0
      · have hd0 : d = 0 := by
          rcases Nat.eq_zero_or_pos d with y | y
          · exact y
          · exfalso
            have h1 := hR.2.2 (by omega)
            have h2 : (2 : Int) ^ (st * (n + 1)) ≤ 2 ^ (st * (n + (d + 1) - 1)) := p2_mono (Nat.mul_le_mul_left st (by omega))
            have h3 : 1 ≤ x / 2 ^ (st * (n + 1)) := Int.le_ediv_of_mul_le (p2_pos _) (by omega)
            omega
        subst hd0
        rw [if_pos q]
        obtain ⟨c', e, g⟩ := turn_spec (n := n + 1) (by omega) (c0 := upd sp n t0) (fun i hi => by rw [hs' i hi]; exact sb_hx (hx16 hst _).1 (hx16 hst _).2)
        rw [e, Option.bind_some]
        refine ⟨c', rfl, fun j hj => ?_⟩
        rw [g j hj, hs' _ (by omega)]
      · rw [if_neg q]
        have hd1 : 1 ≤ d := by
          rcases Nat.eq_zero_or_pos d with y | y
          · exfalso
            subst y
            apply q
            exact Int.ediv_eq_zero_of_lt x0 hR.2.1
          · exact y
        obtain ⟨sp', e, g⟩ := spell2_loop x0 x1 hst d (n + 1) k (upd sp n t0) (by rw [show n + 1 + d = n + (d + 1) by omega]; exact hR) hd1 (by omega) (by omega) hs'
        rw [show n + 1 + d = n + (d + 1) by omega] at e g
        exact ⟨sp', e, g⟩
    by_cases q : x / 2 ^ (st * n) % 2 ^ st < 10
    · rw [if_neg (show ¬ (10 : Int32) ≤ iI (x / 2 ^ (st * n) % 2 ^ st) from by simp (disch := omega) only [iI_lit, iL_lit, iI_add, iI_sub, iI_mul, iI_neg, iL_add, iL_sub, iL_mul, iL_neg, iI_lt, iI_le, iI_eq, iL_lt, iL_le, iL_eqS, iI_c, iI_ok, iI_l, iL_i, iI_low, l_ushrI, l_shlI, l_shrI, i_shlI, i_shrI, i_ushrI, iI_div, iL_div, Int.toNat_natCast, Int.reduceToNat, iI_ofNat]; omega), show (48 : Int32) = iI 48 from rfl, iI_add]
      exact fin _ (by unfold hxD; rw [if_pos q])
    · rw [if_pos (show (10 : Int32) ≤ iI (x / 2 ^ (st * n) % 2 ^ st) from by simp (disch := omega) only [iI_lit, iL_lit, iI_add, iI_sub, iI_mul, iI_neg, iL_add, iL_sub, iL_mul, iL_neg, iI_lt, iI_le, iI_eq, iL_lt, iL_le, iL_eqS, iI_c, iI_ok, iI_l, iL_i, iI_low, l_ushrI, l_shlI, l_shrI, i_shlI, i_shrI, i_ushrI, iI_div, iL_div, Int.toNat_natCast, Int.reduceToNat, iI_ofNat]; omega), show (97 : Int32) = iI 97 from rfl, show (10 : Int32) = iI 10 from rfl, iI_add, iI_sub]
      exact fin _ (by unfold hxD; rw [if_neg q]; congr 1; omega)
set_option maxRecDepth 10000 in
theorem rdxL_get (x : Int) (st : Nat) : ∀ d j, j < d → (rdxL x st d)[j]? = some (hxD (x / 2 ^ (st * (d - 1 - j)) % 2 ^ st))
  | 0, j, h => by omega
  | d + 1, 0, h => by show some _ = _; rw [show d + 1 - 1 - 0 = d by omega]
  | d + 1, j + 1, h => by
    show (rdxL x st d)[j]? = _
    rw [rdxL_get x st d j (by omega), show d + 1 - 1 - (j + 1) = d - 1 - j by omega]
set_option maxRecDepth 10000 in
theorem spell2_spec {x : Int} (x0 : 0 ≤ x) (x1 : x < 18446744073709551616) {st d : Nat} (hst : st = 3 ∨ st = 4) (hR : RN x st d) (hd : d ≤ 22) (sp : Nat → Int32) : ∃ sp', f_Md_spell2 (iL x) (iI st) sp = some (iI d, sp') ∧ ∀ j y, (rdxL x st d)[j]? = some y → sp' j = y := by
  unfold f_Md_spell2
  obtain ⟨sp', e, g⟩ := spell2_loop x0 x1 hst d 0 gx_fu sp (by rw [Nat.zero_add]; exact hR) hR.1 (by omega) (by have := fu_pos; omega) (fun j hj => by omega)
  rw [Nat.mul_zero, Int.pow_zero, Int.ediv_one, Nat.zero_add] at e
  refine ⟨sp', e, fun j y hy => ?_⟩
  have hj : j < d := by
    rcases Nat.lt_or_ge j d with w | w
    · exact w
    · rw [List.getElem?_eq_none (by rw [rdxL_len]; exact w)] at hy; exact absurd hy (by simp)
  rw [rdxL_get x st d j hj] at hy
  have := g j (by omega)
  rw [Nat.zero_add] at this
  rw [this]
  exact Option.some.inj hy
-- UC
set_option maxRecDepth 10000 in
abbrev πQ (r : Int32 × (Nat → Int32) × (Nat → Int32) × Nat) : Nat := r.2.2.2
set_option maxRecDepth 10000 in
abbrev MBQ (E : List Int32) (r : Int32 × (Nat → Int32) × (Nat → Int32) × Nat) : Prop := MB r.1 r.2.2.1 r.2.2.2 E
set_option maxRecDepth 10000 in
theorem un133 {L : Nat} (hL2 : L ≤ 150000) {E S : List Int32} (hS : S.length ≤ 72) (hsS : ∀ x ∈ S, sb x = x) {sp : Nat → Int32} (hsp : ∀ i x, S[i]? = some x → sp i = x) {w : Int} (hw0 : -1 ≤ w) (hw1 : w ≤ 9999) (hE : E.length + 10000 < L) (kc fc : Nat → Int32) (vc : Nat → Int64) (cv : Int32) :
    ∀ (d j m : Nat) (T : List Int32) (h : Int32) (c : Nat → Int32) (bl : Nat), j + d = S.length → d < m → MB h c bl (E ++ T) → E.length + T.length + d + 1 < L → bl ≤ 400000 → OUT πQ (f_Md_unsigned_133 m (iI E.length) (iI S.length) (iI j) h kc vc fc cv sp (iI w) c bl) bl L (MBQ (E ++ layP w (T ++ S.drop j) (¬ fc 0 ≤ 0)))
  | 0, j, m + 1, T, h, c, bl, hj, hm, hM, hL, hbl => by
    rw [f_Md_unsigned_133, if_pos (show iI (S.length : Int) ≤ iI (j : Int) from by simp (disch := omega) only [iI_lit, iL_lit, iI_add, iI_sub, iI_mul, iI_neg, iL_add, iL_sub, iL_mul, iL_neg, iI_lt, iI_le, iI_eq, iL_lt, iL_le, iL_eqS, iI_c, iI_ok, iI_l, iL_i, iI_low, l_ushrI, l_shlI, l_shrI, i_shlI, i_shrI, i_ushrI, iI_div, iL_div, Int.toNat_natCast, Int.reduceToNat, iI_ofNat]; omega), List.drop_of_length_le (by omega), List.append_nil]
    exact OUT_bind (padded_spec hL2 hw0 hw1 hE (by omega) fc hM hbl) (fun u hu h1 h2 => ⟨_, rfl, Nat.le_refl _, Nat.le_max_left _ _, hu⟩)
  | d + 1, j, m + 1, T, h, c, bl, hj, hm, hM, hL, hbl => by
    have hjl : j < S.length := by omega
    rw [f_Md_unsigned_133, if_neg (show ¬ iI (S.length : Int) ≤ iI (j : Int) from by simp (disch := omega) only [iI_lit, iL_lit, iI_add, iI_sub, iI_mul, iI_neg, iL_add, iL_sub, iL_mul, iL_neg, iI_lt, iI_le, iI_eq, iL_lt, iL_le, iL_eqS, iI_c, iI_ok, iI_l, iL_i, iI_low, l_ushrI, l_shlI, l_shrI, i_shlI, i_shrI, i_ushrI, iI_div, iL_div, Int.toNat_natCast, Int.reduceToNat, iI_ofNat]; omega), if_pos (show gx_ok (iI (j : Int)) 72 = true from by simp (disch := omega) only [iI_lit, iL_lit, iI_add, iI_sub, iI_mul, iI_neg, iL_add, iL_sub, iL_mul, iL_neg, iI_lt, iI_le, iI_eq, iL_lt, iL_le, iL_eqS, iI_c, iI_ok, iI_l, iL_i, iI_low, l_ushrI, l_shlI, l_shrI, i_shlI, i_shrI, i_ushrI, iI_div, iL_div, Int.toNat_natCast, Int.reduceToNat, iI_ofNat]; omega), iI_c (by omega) (by omega), Int.toNat_natCast, hsp j S[j] (List.getElem?_eq_getElem hjl), show iI (j : Int) + 1 = iI ((j + 1 : Nat) : Int) from by rw [show (1 : Int32) = iI 1 from rfl, iI_add]; rfl]
    refine OUT_bind (OUT_put hM (by simp; omega) (by omega) hbl S[j]) (fun u hu g1 g2 => ?_)
    rw [hsS S[j] (List.getElem_mem hjl), List.append_assoc] at hu
    have := un133 hL2 hS hsS hsp hw0 hw1 hE kc fc vc cv d (j + 1) m (T ++ [S[j]]) u.1 u.2.1 u.2.2 (by omega) (by omega) hu (by simp; omega) (by omega)
    rw [List.append_assoc T, List.singleton_append, List.getElem_cons_drop] at this
    exact this
set_option maxRecDepth 10000 in
theorem un109 {L : Nat} (hL2 : L ≤ 150000) {E S : List Int32} (hS : S.length ≤ 72) (hsS : ∀ x ∈ S, sb x = x) {sp : Nat → Int32} (hsp : ∀ i x, S[i]? = some x → sp i = x) {w : Int} (hw0 : -1 ≤ w) (hw1 : w ≤ 9999) (hE : E.length + 10000 < L) (kc fc : Nat → Int32) (vc : Nat → Int64) (cv : Int32) :
    ∀ (d m : Nat) (v : Int) (T : List Int32) (h : Int32) (c : Nat → Int32) (bl : Nat), 0 ≤ v → v ≤ 40000 → (d : Int) = ((w - v).toNat : Int) → d < m → MB h c bl (E ++ T) → E.length + T.length + d + S.length + 1 < L → bl ≤ 400000 → OUT πQ (f_Md_unsigned_109 m (iI E.length) (iI S.length) (iI v) h kc vc fc cv sp (iI w) c bl) bl L (MBQ (E ++ layP w (T ++ (spE (w - v) (iI 48) ++ S)) (¬ fc 0 ≤ 0)))
  | 0, m + 1, v, T, h, c, bl, v0, v1, hd, hm, hM, hL, hbl => by
    rw [f_Md_unsigned_109, if_pos (show iI w ≤ iI v from by simp (disch := omega) only [iI_lit, iL_lit, iI_add, iI_sub, iI_mul, iI_neg, iL_add, iL_sub, iL_mul, iL_neg, iI_lt, iI_le, iI_eq, iL_lt, iL_le, iL_eqS, iI_c, iI_ok, iI_l, iL_i, iI_low, l_ushrI, l_shlI, l_shrI, i_shlI, i_shrI, i_ushrI, iI_div, iL_div, Int.toNat_natCast, Int.reduceToNat, iI_ofNat]; omega)]
    unfold f_Md_unsigned_130
    have : spE (w - v) (iI 48) = [] := spE_neg (by omega) _
    rw [this, List.nil_append]
    have := un133 hL2 hS hsS hsp hw0 hw1 hE kc fc vc cv S.length 0 gx_fu T h c bl (by omega) (by have := fu_big; omega) hM (by omega) hbl
    rw [List.drop_zero] at this
    exact this
  | d + 1, m + 1, v, T, h, c, bl, v0, v1, hd, hm, hM, hL, hbl => by
    rw [f_Md_unsigned_109, if_neg (show ¬ iI w ≤ iI v from by simp (disch := omega) only [iI_lit, iL_lit, iI_add, iI_sub, iI_mul, iI_neg, iL_add, iL_sub, iL_mul, iL_neg, iI_lt, iI_le, iI_eq, iL_lt, iL_le, iL_eqS, iI_c, iI_ok, iI_l, iL_i, iI_low, l_ushrI, l_shlI, l_shrI, i_shlI, i_shrI, i_ushrI, iI_div, iL_div, Int.toNat_natCast, Int.reduceToNat, iI_ofNat]; omega)]
    refine OUT_bind (OUT_put hM (by simp; omega) (by omega) hbl 48) (fun u hu g1 g2 => ?_)
    rw [List.append_assoc, show sb 48 = iI 48 from by decide] at hu
    have ev : iI v + 1 = iI (v + 1) := by rw [show (1 : Int32) = iI 1 from rfl, iI_add]
    rw [ev]
    have := un109 hL2 hS hsS hsp hw0 hw1 hE kc fc vc cv d m (v + 1) (T ++ [iI 48]) u.1 u.2.1 u.2.2 (by omega) (by omega) (by omega) (by omega) hu (by simp; omega) (by omega)
    have e : spE (w - v) (iI 48) = [iI 48] ++ spE (w - (v + 1)) (iI 48) := by
      unfold spE
      rw [show (w - v).toNat = (w - (v + 1)).toNat + 1 by omega, List.replicate_succ]; rfl
    rw [e]
    rw [List.append_assoc T] at this
    rw [List.append_assoc [iI 48]]
    exact this
set_option maxRecDepth 10000 in
theorem rdxL_sb {st : Nat} (hst : st = 3 ∨ st = 4) (x : Int) : ∀ d, ∀ y ∈ rdxL x st d, sb y = y
  | 0, y, h => by simp [rdxL] at h
  | d + 1, y, h => by
    simp only [rdxL, List.mem_cons] at h
    rcases h with rfl | h
    · exact sb_hx (hx16 hst _).1 (hx16 hst _).2
    · exact rdxL_sb hst x d y h
set_option maxRecDepth 10000 in
theorem un84 {L : Nat} (hL2 : L ≤ 150000) {E : List Int32} {x : Int} (x0 : 0 ≤ x) (x1 : x < 18446744073709551616) {st d : Nat} (hst : st = 3 ∨ st = 4) (hR : RN x st d) (hd : d ≤ 22) {w : Int} (hw0 : -1 ≤ w) (hw1 : w ≤ 9999) (hE : E.length + 20000 < L) (kc fc : Nat → Int32) (vc : Nat → Int64) (cv : Int32) (hzl : ¬ (¬ fc 4 ≤ 0 ∧ ¬ fc 0 ≤ 0)) (sp : Nat → Int32) (T : List Int32) (hT : T.length ≤ 5) {h : Int32} {c : Nat → Int32} {bl : Nat} (hM : MB h c bl (E ++ T)) (hbl : bl ≤ 400000) :
    OUT πQ (f_Md_unsigned_84 (iI E.length) (iI st) (iL x) h kc vc fc cv sp (iI w) c bl) bl L (MBQ (E ++ layT w T (rdxL x st d) False False (¬ fc 4 ≤ 0) (¬ fc 0 ≤ 0))) := by
  unfold f_Md_unsigned_84
  obtain ⟨sp', e, g⟩ := spell2_spec x0 x1 hst hR hd sp
  have hlen := rdxL_len x st d
  rw [e, Option.bind_some]
  dsimp only
  rw [if_pos (show gx_ok (4 : Int32) 7 = true from by decide)]
  have eL := layP_T (w := w) (H := T) (B := rdxL x st d) False (¬ fc 4 ≤ 0) (¬ fc 0 ≤ 0) hzl
  rw [if_neg (fun x => x), if_neg (fun x => x), List.append_nil, Int.sub_zero] at eL
  show OUT πQ (if fc 4 ≤ 0 then _ else _) bl L _
  by_cases q : fc 4 ≤ 0
  · rw [if_pos q]
    rw [if_neg (show ¬ ¬ fc 4 ≤ 0 from fun y => y q), List.nil_append] at eL
    rw [← eL]
    unfold f_Md_unsigned_130
    have := un133 hL2 (S := rdxL x st d) (by omega) (rdxL_sb hst x d) g hw0 hw1 (by omega) kc fc vc cv d 0 gx_fu T h c bl (by omega) (by have := fu_big; omega) hM (by omega) hbl
    rw [List.drop_zero, hlen] at this
    exact this
  · rw [if_neg q]
    rw [if_pos q] at eL
    rw [← eL]
    have hv : h - iI (E.length : Int) + iI (d : Int) = iI ((T.length : Int) + d) := by
      rw [hM.1, iI_sub, iI_add, List.length_append]; congr 1; omega
    rw [hv]
    have := un109 hL2 (S := rdxL x st d) (by omega) (rdxL_sb hst x d) g hw0 hw1 (by omega) kc fc vc cv ((w - ((T.length : Int) + d)).toNat) gx_fu ((T.length : Int) + d) T h c bl (by omega) (by omega) rfl (by have := fu_big; omega) hM (by omega) hbl
    rw [hlen] at this
    rw [show w - (T.length : Int) - ((rdxL x st d).length : Int) = w - ((T.length : Int) + d) by rw [hlen]; omega]
    exact this
