-- TA
set_option maxRecDepth 10000 in
theorem rdF_ct (X : List Int32) : ∀ d ct i x, ct x ≤ (rdF X d ct i).1 x ∧ (rdF X d ct i).1 x ≤ ct x + d
  | 0, ct, i, x => by unfold rdF; simp
  | d + 1, ct, i, x => by
    unfold rdF
    split
    · have := rdF_ct X d (updI ct (fgI (hq X i)).toNat (ct (fgI (hq X i)).toNat + 1)) (i + 1) x
      unfold updI at this ⊢
      split at this
      · rename_i e; subst e; omega
      · omega
    · simp; omega
set_option maxRecDepth 10000 in
theorem dCt_b {X : List Int32} (hX : X.length ≤ 100000) (p x : Nat) : 0 ≤ dCt X p x ∧ dCt X p x ≤ 100000 := by
  have := rdF_ct X (X.length - (ixP X p).2) (fun _ => 0) (ixP X p).2 x
  unfold dCt fN
  skip
  omega
set_option maxRecDepth 10000 in
theorem seek_loop {N : Nat} {t : Int32} {c : Nat → Int32} {X : List Int32} (h : TP t c X) (hX : X.length ≤ N) (hN : N ≤ 900000) : ∀ (d k p : Nat), p + d = X.length → d < k → f_Md_seek_0 k N (iI p) (iI X.length) c = some (iI (if sk X d p < X.length then (sk X d p : Int) else -1), iI (sk X d p : Nat)) := by
  intro d
  induction d with
  | zero =>
    intro k p hd hk
    obtain ⟨k, rfl⟩ : ∃ x, k = x + 1 := ⟨k - 1, by omega⟩
    unfold f_Md_seek_0 f_Md_seek_38 sk
    rw [if_pos (show iI (X.length : Int) ≤ iI (p : Int) from by simp (disch := omega) only [iI_lit, iL_lit, iI_add, iI_sub, iI_mul, iI_neg, iL_add, iL_sub, iL_mul, iL_neg, iI_lt, iI_le, iI_eq, iL_lt, iL_le, iL_eqS, iI_c, iI_ok, iI_l, iL_i, iI_low, l_ushrI, l_shlI, l_shrI, i_shlI, i_shrI, i_ushrI, iI_div, iL_div, Int.toNat_natCast, Int.reduceToNat, iI_ofNat]; omega), if_pos (show iI (X.length : Int) ≤ iI (p : Int) from by simp (disch := omega) only [iI_lit, iL_lit, iI_add, iI_sub, iI_mul, iI_neg, iL_add, iL_sub, iL_mul, iL_neg, iI_lt, iI_le, iI_eq, iL_lt, iL_le, iL_eqS, iI_c, iI_ok, iI_l, iL_i, iI_low, l_ushrI, l_shlI, l_shrI, i_shlI, i_shrI, i_ushrI, iI_div, iL_div, Int.toNat_natCast, Int.reduceToNat, iI_ofNat]; omega), if_neg (by omega)]
    rfl
  | succ d ih =>
    intro k p hd hk
    obtain ⟨k, rfl⟩ : ∃ x, k = x + 1 := ⟨k - 1, by omega⟩
    have hok : gx_ok (iI (p : Int)) N = true := by simp (disch := omega) only [iI_lit, iL_lit, iI_add, iI_sub, iI_mul, iI_neg, iL_add, iL_sub, iL_mul, iL_neg, iI_lt, iI_le, iI_eq, iL_lt, iL_le, iL_eqS, iI_c, iI_ok, iI_l, iL_i, iI_low, l_ushrI, l_shlI, l_shrI, i_shlI, i_shrI, i_ushrI, iI_div, iL_div, Int.toNat_natCast, Int.reduceToNat, iI_ofNat]; omega
    obtain ⟨a, a0, a1, ea, eh⟩ := fm_at h (i := p) (by omega)
    have h37 : (iI a = (37 : Int32)) = (hq X p = 37) := by
      rw [show (37 : Int32) = iI 37 from rfl, iI_eq (by omega) (by omega) (by omega) (by omega), eh]
      exact propext (by split <;> omega)
    unfold f_Md_seek_0 f_Md_seek_38 sk
    rw [if_neg (show ¬ iI (X.length : Int) ≤ iI (p : Int) from by simp (disch := omega) only [iI_lit, iL_lit, iI_add, iI_sub, iI_mul, iI_neg, iL_add, iL_sub, iL_mul, iL_neg, iI_lt, iI_le, iI_eq, iL_lt, iL_le, iL_eqS, iI_c, iI_ok, iI_l, iL_i, iI_low, l_ushrI, l_shlI, l_shrI, i_shlI, i_shrI, i_ushrI, iI_div, iL_div, Int.toNat_natCast, Int.reduceToNat, iI_ofNat]; omega), if_pos hok, iI_c (by omega) (by omega), Int.toNat_natCast, ea]
    simp only [h37]
    by_cases q : hq X p = 37
    · simp only [if_pos q]
      rw [if_neg (show ¬ iI (X.length : Int) ≤ iI (p : Int) from by simp (disch := omega) only [iI_lit, iL_lit, iI_add, iI_sub, iI_mul, iI_neg, iL_add, iL_sub, iL_mul, iL_neg, iI_lt, iI_le, iI_eq, iL_lt, iL_le, iL_eqS, iI_c, iI_ok, iI_l, iL_i, iI_low, l_ushrI, l_shlI, l_shrI, i_shlI, i_shrI, i_ushrI, iI_div, iL_div, Int.toNat_natCast, Int.reduceToNat, iI_ofNat]; omega), if_pos (by omega)]
    · simp only [if_neg q]
      rw [e1N]
      exact ih k (p + 1) (by omega) (by omega)
set_option maxRecDepth 10000 in
def skv (X : List Int32) (p : Nat) : Int := if sK X p < X.length then (sK X p : Int) else -1
set_option maxRecDepth 10000 in
theorem seek_spec {N : Nat} {t : Int32} {c : Nat → Int32} {X : List Int32} (h : TP t c X) (hX : X.length ≤ N) (hN : N ≤ 900000) {p : Nat} (hp : p ≤ X.length) : f_Md_seek N (iI p) (iI X.length) c = some (iI (skv X p), iI (sK X p : Nat)) := by
  unfold f_Md_seek skv sK
  exact seek_loop h hX hN (X.length - p) gx_fu p (by omega) (by have := fu_big; omega)
set_option maxRecDepth 10000 in
abbrev T16 := Int32 × Int32 × Int32 × Int32 × Int32 × Int32 × (Nat → Int32) × Int32 × Int32 × Int32 × Int32 × (Nat → Int32) × (Nat → Int32) × (Nat → Int32) × Int32 × Int32
set_option maxRecDepth 10000 in
def CRC (r : T16) (an tp co pl : Int32) (lm th ec : Nat → Int32) : Prop := r.1 = an ∧ r.2.1 = tp ∧ r.2.2.2.2.2.2.2.2.2.1 = co ∧ r.2.2.2.2.2.2.2.2.2.2.1 = pl ∧ r.2.2.2.2.2.2.2.2.2.2.2.1 = lm ∧ r.2.2.2.2.2.2.2.2.2.2.2.2.1 = th ∧ r.2.2.2.2.2.2.2.2.2.2.2.2.2.1 = ec
set_option maxRecDepth 10000 in
theorem c198 {N : Nat} {t : Int32} {c : Nat → Int32} {X : List Int32} (h : TP t c X) (hX : X.length ≤ N) (hX1 : X.length ≤ 1000) (hN : N ≤ 900000) {f : Nat} (hf : f < 8) (v3 tp p w pr cv gv co plc ix ag : Int32) (fl lm th : Nat → Int32) : ∀ (d k v : Nat) (ec : Nat → Int32), v + d = X.length → d < k → (∀ j x, j < v → X[j]? = some x → ec j = x) → ∃ r : T16, f_Md_compile_198 k (iI f) (iI X.length) v3 (iI v) N tp p (iI X.length) c f w pr fl cv gv co plc lm th ec ix ag = some r ∧ ∃ ec', (∀ j x, X[j]? = some x → ec' j = x) ∧ CRC r v3 tp co plc (upd lm f (iI X.length)) (upd th f (vp_nar .boolean 1)) ec' := by
  have hok8 : gx_ok (iI (f : Int)) 8 = true := by simp (disch := omega) only [iI_lit, iL_lit, iI_add, iI_sub, iI_mul, iI_neg, iL_add, iL_sub, iL_mul, iL_neg, iI_lt, iI_le, iI_eq, iL_lt, iL_le, iL_eqS, iI_c, iI_ok, iI_l, iL_i, iI_low, l_ushrI, l_shlI, l_shrI, i_shlI, i_shrI, i_ushrI, iI_div, iL_div, Int.toNat_natCast, Int.reduceToNat, iI_ofNat]; omega
  intro d
  induction d with
  | zero =>
    intro k v ec hd hk hr
    obtain ⟨k, rfl⟩ : ∃ x, k = x + 1 := ⟨k - 1, by omega⟩
    unfold f_Md_compile_198
    rw [if_pos (show iI (X.length : Int) ≤ iI (v : Int) from by simp (disch := omega) only [iI_lit, iL_lit, iI_add, iI_sub, iI_mul, iI_neg, iL_add, iL_sub, iL_mul, iL_neg, iI_lt, iI_le, iI_eq, iL_lt, iL_le, iL_eqS, iI_c, iI_ok, iI_l, iL_i, iI_low, l_ushrI, l_shlI, l_shrI, i_shlI, i_shrI, i_ushrI, iI_div, iL_div, Int.toNat_natCast, Int.reduceToNat, iI_ofNat]; omega), if_pos hok8, if_pos hok8, iI_c (by omega) (by omega), Int.toNat_natCast]
    refine ⟨_, rfl, ec, fun j x hj => hr j x ?_ hj, rfl, rfl, rfl, rfl, rfl, rfl, rfl⟩
    have := (List.getElem?_eq_some_iff.mp hj).1
    omega
  | succ d ih =>
    intro k v ec hd hk hr
    obtain ⟨k, rfl⟩ : ∃ x, k = x + 1 := ⟨k - 1, by omega⟩
    have hok : gx_ok (iI (v : Int)) N = true := by simp (disch := omega) only [iI_lit, iL_lit, iI_add, iI_sub, iI_mul, iI_neg, iL_add, iL_sub, iL_mul, iL_neg, iI_lt, iI_le, iI_eq, iL_lt, iL_le, iL_eqS, iI_c, iI_ok, iI_l, iL_i, iI_low, l_ushrI, l_shlI, l_shrI, i_shlI, i_shrI, i_ushrI, iI_div, iL_div, Int.toNat_natCast, Int.reduceToNat, iI_ofNat]; omega
    have hok1 : gx_ok (iI (v : Int)) 1000 = true := by simp (disch := omega) only [iI_lit, iL_lit, iI_add, iI_sub, iI_mul, iI_neg, iL_add, iL_sub, iL_mul, iL_neg, iI_lt, iI_le, iI_eq, iL_lt, iL_le, iL_eqS, iI_c, iI_ok, iI_l, iL_i, iI_low, l_ushrI, l_shlI, l_shrI, i_shlI, i_shrI, i_ushrI, iI_div, iL_div, Int.toNat_natCast, Int.reduceToNat, iI_ofNat]; omega
    unfold f_Md_compile_198
    rw [if_neg (show ¬ iI (X.length : Int) ≤ iI (v : Int) from by simp (disch := omega) only [iI_lit, iL_lit, iI_add, iI_sub, iI_mul, iI_neg, iL_add, iL_sub, iL_mul, iL_neg, iI_lt, iI_le, iI_eq, iL_lt, iL_le, iL_eqS, iI_c, iI_ok, iI_l, iL_i, iI_low, l_ushrI, l_shlI, l_shrI, i_shlI, i_shrI, i_ushrI, iI_div, iL_div, Int.toNat_natCast, Int.reduceToNat, iI_ofNat]; omega), if_pos hok8, iI_c (a := (f : Int)) (by omega) (by omega), Int.toNat_natCast, if_pos rfl, if_pos hok, if_pos hok1, iI_c (by omega) (by omega), Int.toNat_natCast, e1N]
    refine ih k (v + 1) _ (by omega) (by omega) (fun j x hj hx => ?_)
    by_cases q : j = v
    · subst q
      rw [upd_s, nar_bs, h.2.1 j x hx]
      exact h.2.2 x (List.mem_of_getElem? hx)
    · rw [upd_n q]
      exact hr j x (by omega) hx
set_option maxRecDepth 10000 in
theorem c146 {N : Nat} {t : Int32} {c : Nat → Int32} {X : List Int32} (h : TP t c X) (hX : X.length ≤ N) (hX1 : X.length ≤ 1000) (hN : N ≤ 900000) {f : Nat} (v3 tp co plc : Int32) (lm th ec : Nat → Int32) : ∀ (D k p : Nat) (w pr cv gv ix ag : Int32) (fl : Nat → Int32), p ≤ X.length → X.length < D + p → X.length < k + p → (dirs X D p).2 = none →
    (∀ j, fB X (dirs X D p).1 = some j → ∃ r : T16, f_Md_compile_146 k (iI f) (iI X.length) v3 (iI (skv X p)) N tp (iI (sK X p : Nat)) (iI X.length) c f w pr fl cv gv co plc lm th ec ix ag = some r ∧ CRC r 0 tp 4 (iI j) lm th ec) ∧
    (fB X (dirs X D p).1 = none → ∃ p' w' pr' cv' gv' ix' ag' fl', f_Md_compile_146 k (iI f) (iI X.length) v3 (iI (skv X p)) N tp (iI (sK X p : Nat)) (iI X.length) c f w pr fl cv gv co plc lm th ec ix ag = f_Md_compile_198 gx_fu (iI f) (iI X.length) v3 0 N tp p' (iI X.length) c f w' pr' fl' cv' gv' co plc lm th ec ix' ag') := by
  intro D
  induction D with
  | zero => intro k p w pr cv gv ix ag fl hp hD hk hn; omega
  | succ D ih =>
    intro k p w pr cv gv ix ag fl hp hD hk hn
    obtain ⟨k, rfl⟩ | hk0 : (∃ x, k = x + 1) ∨ k = 0 := by
      cases k with
      | zero => right; rfl
      | succ x => left; exact ⟨x, rfl⟩
    · have hs := sK_b hp
      unfold dirs at hn
      by_cases q : sK X p < X.length
      · have hsv : skv X p = (sK X p : Int) := if_pos q
        rw [if_pos q] at hn
        by_cases q2 : DOK X (sK X p + 1)
        · rw [if_pos q2] at hn
          have hin := DOK_in q2
          have hP := dP_b (X := X) (p := sK X p + 1) (by omega)
          have he : (dirs X (D + 1) p).1 = sK X p :: (dirs X D (dP3 X (sK X p + 1) + 1)).1 := by
            conv => lhs; unfold dirs
            rw [if_pos q, if_pos q2]
          rw [he]
          have md := mdir_spec h hX hN (p := sK X p + 1) (by omega) w pr fl ix ag gv cv
          obtain ⟨fl', hfl', e⟩ := md.1 q2
          have hw := dWd_b X (sK X p + 1)
          have hb := mbarred_spec q2.2.2.2.2 hfl' (fun x hx => dCt_b (by omega) (sK X p + 1) x) (wd := dWd X (sK X p + 1)) (pr := dPr X (sK X p + 1)) (ix := (ixP X (sK X p + 1)).1) hw.1 hw.2 q2.2.2.1 (by have := q2.2.2.2.1; omega)
          unfold f_Md_compile_146
          rw [hsv, if_neg (show ¬ iI (sK X p : Int) < 0 from by simp (disch := omega) only [iI_lit, iL_lit, iI_add, iI_sub, iI_mul, iI_neg, iL_add, iL_sub, iL_mul, iL_neg, iI_lt, iI_le, iI_eq, iL_lt, iL_le, iL_eqS, iI_c, iI_ok, iI_l, iL_i, iI_low, l_ushrI, l_shlI, l_shrI, i_shlI, i_shrI, i_ushrI, iI_div, iL_div, Int.toNat_natCast, Int.reduceToNat, iI_ofNat]; omega), e1N, e, Option.bind_some]
          dsimp only
          have hgv : iI (dGv X (sK X p + 1)) = iI (if (ixP X (sK X p + 1)).1 = 0 then 0 else 1) := rfl
          rw [hgv]
          unfold fB
          by_cases q3 : BARX X (sK X p)
          · rw [hb.1 q3, Option.bind_some, if_neg (show ¬ (1 : Int32) = 0 from by decide)]
            refine ⟨fun j hj => ⟨_, rfl, ?_⟩, fun hj => ?_⟩
            · rw [if_pos q3] at hj
              simp at hj
              rw [← hj]
              exact ⟨rfl, rfl, rfl, rfl, rfl, rfl, rfl⟩
            · rw [if_pos q3] at hj; cases hj
          · rw [hb.2 q3, Option.bind_some, if_pos rfl, seek_spec h hX hN (by omega), Option.bind_some, if_neg q3]
            exact ih k _ _ _ _ _ _ _ _ (by omega) (by omega) (by omega) hn
        · rw [if_neg q2] at hn; cases hn
      · have hsv : skv X p = -1 := if_neg q
        have he : (dirs X (D + 1) p).1 = [] := by
          unfold dirs
          rw [if_neg q]
        rw [he]
        unfold f_Md_compile_146
        rw [hsv, if_pos (show iI (-1) < 0 from by decide)]
        exact ⟨fun j hj => by simp [fB] at hj, fun _ => ⟨_, _, _, _, _, _, _, _, rfl⟩⟩
    · omega
set_option maxRecDepth 10000 in
theorem c88 {N : Nat} {t : Int32} {c : Nat → Int32} {X : List Int32} (h : TP t c X) (hX : X.length ≤ N) (hX1 : X.length ≤ 1000) (hN : N ≤ 900000) {f : Nat} (tp co plc : Int32) (lm th ec : Nat → Int32) : ∀ (D k p cnt : Nat) (w pr cv gv ix ag : Int32) (fl : Nat → Int32), p ≤ X.length → X.length < D + p → X.length < k + p →
    (∀ j, (dirs X D p).2 = some j → ∃ r : T16, f_Md_compile_88 k (iI f) (iI X.length) (iI cnt) (iI (skv X p)) N tp (iI (sK X p : Nat)) (iI X.length) c f w pr fl cv gv co plc lm th ec ix ag = some r ∧ CRC r 0 tp 3 (iI j) lm th ec) ∧
    ((dirs X D p).2 = none → ∃ w' pr' cv' gv' ix' ag' fl', f_Md_compile_88 k (iI f) (iI X.length) (iI cnt) (iI (skv X p)) N tp (iI (sK X p : Nat)) (iI X.length) c f w pr fl cv gv co plc lm th ec ix ag = f_Md_compile_146 gx_fu (iI f) (iI X.length) (iI ((cnt + (dirs X D p).1.length : Nat) : Int)) (iI (skv X 0)) N tp (iI (sK X 0 : Nat)) (iI X.length) c f w' pr' fl' cv' gv' co plc lm th ec ix' ag') := by
  intro D
  induction D with
  | zero => intro k p cnt w pr cv gv ix ag fl hp hD hk; omega
  | succ D ih =>
    intro k p cnt w pr cv gv ix ag fl hp hD hk
    obtain ⟨k, rfl⟩ | hk0 : (∃ x, k = x + 1) ∨ k = 0 := by
      cases k with
      | zero => right; rfl
      | succ x => left; exact ⟨x, rfl⟩
    · have hs := sK_b hp
      by_cases q : sK X p < X.length
      · have hsv : skv X p = (sK X p : Int) := if_pos q
        have md := mdir_spec h hX hN (p := sK X p + 1) (by omega) w pr fl ix ag gv cv
        unfold f_Md_compile_88
        rw [hsv, if_neg (show ¬ iI (sK X p : Int) < 0 from by simp (disch := omega) only [iI_lit, iL_lit, iI_add, iI_sub, iI_mul, iI_neg, iL_add, iL_sub, iL_mul, iL_neg, iI_lt, iI_le, iI_eq, iL_lt, iL_le, iL_eqS, iI_c, iI_ok, iI_l, iL_i, iI_low, l_ushrI, l_shlI, l_shrI, i_shlI, i_shrI, i_ushrI, iI_div, iL_div, Int.toNat_natCast, Int.reduceToNat, iI_ofNat]; omega), e1N]
        by_cases q2 : DOK X (sK X p + 1)
        · have hin := DOK_in q2
          have hP := dP_b (X := X) (p := sK X p + 1) (by omega)
          have he : dirs X (D + 1) p = (sK X p :: (dirs X D (dP3 X (sK X p + 1) + 1)).1, (dirs X D (dP3 X (sK X p + 1) + 1)).2) := by
            conv => lhs; unfold dirs
            rw [if_pos q, if_pos q2]
          rw [he]
          obtain ⟨fl', hfl', e⟩ := md.1 q2
          rw [e, Option.bind_some]
          dsimp only
          rw [if_neg (show ¬ (1 : Int32) = 0 from by decide), seek_spec h hX hN (by omega), Option.bind_some, e1N]
          dsimp only
          have := ih k (dP3 X (sK X p + 1) + 1) (cnt + 1) (iI (dWd X (sK X p + 1))) (iI (dPr X (sK X p + 1))) (iI (dCv X (sK X p + 1))) (iI (dGv X (sK X p + 1))) (iI (dIm X (sK X p + 1))) (iI (dAg X (sK X p + 1))) fl' (by omega) (by omega) (by omega)
          rw [List.length_cons, show cnt + ((dirs X D (dP3 X (sK X p + 1) + 1)).1.length + 1) = cnt + 1 + (dirs X D (dP3 X (sK X p + 1) + 1)).1.length by omega]
          exact this
        · have he : dirs X (D + 1) p = ([], some (sK X p)) := by
            conv => lhs; unfold dirs
            rw [if_pos q, if_neg q2]
          rw [he]
          obtain ⟨r, e, hz⟩ := md.2 q2
          rw [e, Option.bind_some, if_pos hz]
          refine ⟨fun j hj => ⟨_, rfl, ?_⟩, fun hj => by cases hj⟩
          simp at hj
          rw [← hj]
          exact ⟨rfl, rfl, rfl, rfl, rfl, rfl, rfl⟩
      · have hsv : skv X p = -1 := if_neg q
        have he : dirs X (D + 1) p = ([], none) := by
          unfold dirs
          rw [if_neg q]
        rw [he]
        unfold f_Md_compile_88
        have e0 := seek_spec h hX hN (p := 0) (by omega)
        have e0' : f_Md_seek N 0 (iI X.length) c = _ := e0
        rw [hsv, if_pos (show iI (-1) < 0 from by decide), e0', Option.bind_some]
        exact ⟨fun j hj => by simp at hj, fun _ => ⟨_, _, _, _, _, _, _, rfl⟩⟩
    · omega
set_option maxRecDepth 10000 in
theorem mcompile_in {N : Nat} {t : Int32} {c : Nat → Int32} {X : List Int32} (h : TP t c X) (hX : X.length ≤ N) (hN : N ≤ 900000) {f : Nat} (hf : f < 8) (p0 fe0 w pr cv gv co plc ix ag : Int32) (fl lm th ec : Nat → Int32) :
    ∃ r : T16, f_Md_compile (iI f) N t p0 fe0 c f w pr fl cv gv co plc lm th ec ix ag = some r ∧
      (1000 < X.length → CRC r 0 0 2 (-1) lm th ec) ∧
      (X.length ≤ 1000 → (∀ j, (dirL X).2 = some j → CRC r 0 0 3 (iI j) lm th ec) ∧ ((dirL X).2 = none → (∀ j, fB X (dirL X).1 = some j → CRC r 0 0 4 (iI j) lm th ec) ∧ (fB X (dirL X).1 = none → ∃ ec', (∀ j x, X[j]? = some x → ec' j = x) ∧ CRC r (iI ((dirL X).1.length : Nat)) 0 0 (-1) (upd lm f (iI X.length)) (upd th f (vp_nar .boolean 1)) ec'))) := by
  have ht := h.1
  unfold f_Md_compile f_Md_compile_16
  rw [if_neg (show ¬ iI (f : Int) < 0 from by simp (disch := omega) only [iI_lit, iL_lit, iI_add, iI_sub, iI_mul, iI_neg, iL_add, iL_sub, iL_mul, iL_neg, iI_lt, iI_le, iI_eq, iL_lt, iL_le, iL_eqS, iI_c, iI_ok, iI_l, iL_i, iI_low, l_ushrI, l_shlI, l_shrI, i_shlI, i_shrI, i_ushrI, iI_div, iL_div, Int.toNat_natCast, Int.reduceToNat, iI_ofNat]; omega), if_neg (show ¬ (7 : Int32) < iI (f : Int) from by simp (disch := omega) only [iI_lit, iL_lit, iI_add, iI_sub, iI_mul, iI_neg, iL_add, iL_sub, iL_mul, iL_neg, iI_lt, iI_le, iI_eq, iL_lt, iL_le, iL_eqS, iI_c, iI_ok, iI_l, iL_i, iI_low, l_ushrI, l_shlI, l_shrI, i_shlI, i_shrI, i_ushrI, iI_div, iL_div, Int.toNat_natCast, Int.reduceToNat, iI_ofNat]; omega)]
  have g1 : f_Md_good (1 : Int32) (1 : Int32) co = some (1, 0) := rfl
  rw [g1, Option.bind_some, if_neg (show ¬ (1 : Int32) = 0 from by decide), ht]
  dsimp only
  by_cases q : 1000 < X.length
  · rw [if_pos (show (1000 : Int32) < iI (X.length : Int) from by simp (disch := omega) only [iI_lit, iL_lit, iI_add, iI_sub, iI_mul, iI_neg, iL_add, iL_sub, iL_mul, iL_neg, iI_lt, iI_le, iI_eq, iL_lt, iL_le, iL_eqS, iI_c, iI_ok, iI_l, iL_i, iI_low, l_ushrI, l_shlI, l_shrI, i_shlI, i_shrI, i_ushrI, iI_div, iL_div, Int.toNat_natCast, Int.reduceToNat, iI_ofNat]; omega)]
    unfold f_Md_compile_53
    have g2 : f_Md_good (0 : Int32) (2 : Int32) 0 = some (0, 2) := rfl
    rw [g2, Option.bind_some, if_pos rfl]
    exact ⟨_, rfl, fun _ => ⟨rfl, rfl, rfl, rfl, rfl, rfl, rfl⟩, fun y => by omega⟩
  · rw [if_neg (show ¬ (1000 : Int32) < iI (X.length : Int) from by simp (disch := omega) only [iI_lit, iL_lit, iI_add, iI_sub, iI_mul, iI_neg, iL_add, iL_sub, iL_mul, iL_neg, iI_lt, iI_le, iI_eq, iL_lt, iL_le, iL_eqS, iI_c, iI_ok, iI_l, iL_i, iI_low, l_ushrI, l_shlI, l_shrI, i_shlI, i_shrI, i_ushrI, iI_div, iL_div, Int.toNat_natCast, Int.reduceToNat, iI_ofNat]; omega)]
    unfold f_Md_compile_53
    have g2 : f_Md_good (1 : Int32) (2 : Int32) 0 = some (1, 0) := rfl
    have e0 := seek_spec h hX hN (p := 0) (by omega)
    have e0' : f_Md_seek N 0 (iI X.length) c = _ := e0
    rw [g2, Option.bind_some, if_neg (show ¬ (1 : Int32) = 0 from by decide), e0', Option.bind_some]
    dsimp only
    have r88 := c88 h hX (by omega) hN (f := f) 0 0 (-1) lm th ec (X.length + 1) gx_fu 0 0 w pr cv gv ix ag fl (by omega) (by omega) (by have := fu_big; omega)
    cases hd : (dirL X).2 with
    | some j =>
      obtain ⟨r, e, hc⟩ := r88.1 j hd
      exact ⟨r, e, fun y => by omega, fun _ => ⟨fun j' hj' => (by cases hj'; exact hc), fun y => (by cases y)⟩⟩
    | none =>
      obtain ⟨w', pr', cv', gv', ix', ag', fl', e⟩ := r88.2 hd
      have e' : f_Md_compile_88 gx_fu (iI f) (iI X.length) 0 (iI (skv X 0)) N 0 (iI (sK X 0 : Nat)) (iI X.length) c f w pr fl cv gv 0 (-1) lm th ec ix ag = _ := e
      rw [e', Nat.zero_add]
      have r146 := c146 h hX (by omega) hN (f := f) (iI ((dirL X).1.length : Nat)) 0 0 (-1) lm th ec (X.length + 1) gx_fu 0 w' pr' cv' gv' ix' ag' fl' (by omega) (by omega) (by have := fu_big; omega) hd
      cases hb : fB X (dirL X).1 with
      | some j =>
        obtain ⟨r, e, hc⟩ := r146.1 j hb
        exact ⟨r, e, fun y => by omega, fun _ => ⟨fun j' hj' => (by cases hj'), fun _ => ⟨fun j' hj' => (by cases hj'; exact hc), fun y => (by cases y)⟩⟩⟩
      | none =>
        obtain ⟨p', w2, pr2, cv2, gv2, ix2, ag2, fl2, e2⟩ := r146.2 hb
        obtain ⟨r, e3, ec', h1, h2⟩ := c198 h hX (by omega) hN hf (iI ((dirL X).1.length : Nat)) 0 p' w2 pr2 cv2 gv2 0 (-1) ix2 ag2 fl2 lm th X.length gx_fu 0 ec (by omega) (by have := fu_big; omega) (fun j x hj => by omega)
        have e2' : f_Md_compile_146 gx_fu (iI f) (iI X.length) (iI ((dirs X (X.length + 1) 0).1.length : Nat)) (iI (skv X 0)) N 0 (iI (sK X 0 : Nat)) (iI X.length) c f w' pr' fl' cv' gv' 0 (-1) lm th ec ix' ag' = _ := e2
        have e3' : f_Md_compile_198 gx_fu (iI f) (iI X.length) (iI ((dirL X).1.length : Nat)) 0 N 0 p' (iI X.length) c f w2 pr2 fl2 cv2 gv2 0 (-1) lm th ec ix2 ag2 = _ := e3
        exact ⟨r, by rw [e2', e3'], fun y => by omega, fun _ => ⟨fun j' hj' => (by cases hj'), fun _ => ⟨fun j' hj' => (by cases hj'), fun _ => ⟨ec', h1, h2⟩⟩⟩⟩
set_option maxRecDepth 10000 in
theorem mcompile_out {N : Nat} {t : Int32} (c : Nat → Int32) {f : Int} (f0 : -2147483648 ≤ f) (f1 : f < 2147483648) (hf : f < 0 ∨ 8 ≤ f) (sel : Nat) (p0 fe0 w pr cv gv co plc ix ag : Int32) (fl lm th ec : Nat → Int32) :
    ∃ r : T16, f_Md_compile (iI f) N t p0 fe0 c sel w pr fl cv gv co plc lm th ec ix ag = some r ∧ CRC r 0 t 1 plc lm th ec := by
  have g1 : f_Md_good (0 : Int32) (1 : Int32) co = some (0, 1) := rfl
  unfold f_Md_compile f_Md_compile_15 f_Md_compile_16
  rw [g1]
  simp only [Option.bind_some]
  by_cases q : f < 0
  · rw [if_pos (show iI f < 0 from by simp (disch := omega) only [iI_lit, iL_lit, iI_add, iI_sub, iI_mul, iI_neg, iL_add, iL_sub, iL_mul, iL_neg, iI_lt, iI_le, iI_eq, iL_lt, iL_le, iL_eqS, iI_c, iI_ok, iI_l, iL_i, iI_low, l_ushrI, l_shlI, l_shrI, i_shlI, i_shrI, i_ushrI, iI_div, iL_div, Int.toNat_natCast, Int.reduceToNat, iI_ofNat]; omega), if_pos trivial]
    exact ⟨_, rfl, rfl, rfl, rfl, rfl, rfl, rfl, rfl⟩
  · rw [if_neg (show ¬ iI f < 0 from by simp (disch := omega) only [iI_lit, iL_lit, iI_add, iI_sub, iI_mul, iI_neg, iL_add, iL_sub, iL_mul, iL_neg, iI_lt, iI_le, iI_eq, iL_lt, iL_le, iL_eqS, iI_c, iI_ok, iI_l, iL_i, iI_low, l_ushrI, l_shlI, l_shrI, i_shlI, i_shrI, i_ushrI, iI_div, iL_div, Int.toNat_natCast, Int.reduceToNat, iI_ofNat]; omega), if_pos (show (7 : Int32) < iI f from by simp (disch := omega) only [iI_lit, iL_lit, iI_add, iI_sub, iI_mul, iI_neg, iL_add, iL_sub, iL_mul, iL_neg, iI_lt, iI_le, iI_eq, iL_lt, iL_le, iL_eqS, iI_c, iI_ok, iI_l, iL_i, iI_low, l_ushrI, l_shlI, l_shrI, i_shlI, i_shrI, i_ushrI, iI_div, iL_div, Int.toNat_natCast, Int.reduceToNat, iI_ofNat]; omega), if_pos trivial]
    exact ⟨_, rfl, rfl, rfl, rfl, rfl, rfl, rfl, rfl⟩
-- TB
set_option maxRecDepth 10000 in
theorem inW_65 : ∀ c : Fin 128, (inW 65 c.val ↔ (inW 53 c.val ∨ inW 51 c.val)) := by decide +kernel
set_option maxRecDepth 10000 in
theorem inW_62 : ∀ c : Fin 128, (inW 62 c.val ↔ (c.val = 37 ∨ c.val = 110)) := by decide +kernel
set_option maxRecDepth 10000 in
theorem mfits_spec {cv k v : Int} (h : CVA cv) (k0 : 0 ≤ k) (k7 : k ≤ 7) (hv0 : -9223372036854775808 ≤ v) (hv1 : v < 9223372036854775808) {kc : Nat → Int32} {vc : Nat → Int64} {a : Nat} (ha : a < 16) (hka : kc a = iI k) (hva : vc a = iL v) :
    f_Md_fits (iI a) kc (iI cv) vc = some (if FITC cv k v then 1 else 0) := by
  obtain ⟨c0, c1⟩ := CVA_b h
  have hok : gx_ok (iI (a : Int)) 16 = true := by simp (disch := omega) only [iI_lit, iL_lit, iI_add, iI_sub, iI_mul, iI_neg, iL_add, iL_sub, iL_mul, iL_neg, iI_lt, iI_le, iI_eq, iL_lt, iL_le, iL_eqS, iI_c, iI_ok, iI_l, iL_i, iI_low, l_ushrI, l_shlI, l_shrI, i_shlI, i_shrI, i_ushrI, iI_div, iL_div, Int.toNat_natCast, Int.reduceToNat, iI_ofNat]; omega
  obtain ⟨cN, rfl⟩ : ∃ x : Nat, cv = (x : Int) := ⟨cv.toNat, by omega⟩
  have w65 := inW_65 ⟨cN, by omega⟩
  simp only at w65
  unfold f_Md_fits f_Md_fits_69 f_Md_fits_73 f_Md_fits_95 f_Md_fits_112
  simp only [if_pos hok]
  rw [iI_c (by omega) (by omega), Int.toNat_natCast, hka, hva, one_spec (o := 63) (by omega) c0 c1, one_spec (o := 64) (by omega) c0 c1, one_spec (o := 65) (by omega) c0 c1]
  simp only [Option.bind_some]
  have kq : ∀ j : Int, 0 ≤ j → j ≤ 7 → (iI k = iI j) = (k = j) := fun j j0 j7 => by rw [iI_eq (by omega) (by omega) (by omega) (by omega)]
  have e0 : (iI k = (0 : Int32)) = (k = 0) := kq 0 (by omega) (by omega)
  have e2 : (iI k = (2 : Int32)) = (k = 2) := kq 2 (by omega) (by omega)
  have e3 : (iI k = (3 : Int32)) = (k = 3) := kq 3 (by omega) (by omega)
  have e4 : (iI k = (4 : Int32)) = (k = 4) := kq 4 (by omega) (by omega)
  have e5 : (iI k = (5 : Int32)) = (k = 5) := kq 5 (by omega) (by omega)
  have e6 : (iI k = (6 : Int32)) = (k = 6) := kq 6 (by omega) (by omega)
  have v1 : (iL v < (32 : Int64)) = (v < 32) := by rw [show (32 : Int64) = iL 32 from rfl, iL_lt (by omega) (by omega) (by omega) (by omega)]
  have v2 : ((126 : Int64) < iL v) = (126 < v) := by rw [show (126 : Int64) = iL 126 from rfl, iL_lt (by omega) (by omega) (by omega) (by omega)]
  have pick : ∀ (p : Prop) [Decidable p], ((if p then (1 : Int32) else 0) = 0) = ¬ p := fun p _ => propext (by by_cases z : p <;> simp [z])
  simp only [e0, e2, e3, e4, e5, e6, v1, v2, pick, w65]
  obtain ⟨x63, x64, x53, x51, x66⟩ := inW_cv ⟨cN, by omega⟩
  simp only at x63 x64 x53 x51
  have hy : FITC (cN : Int) k v → True := fun _ => trivial
  have ex : inW 64 (cN : Int) → ¬ (inW 53 (cN : Int) ∨ inW 51 (cN : Int)) := by rw [x64, x53, x51]; omega
  by_cases q0 : k = 0
  · rw [if_pos q0, if_pos (show FITC (cN : Int) k v from Or.inl q0)]
  rw [if_neg q0]
  by_cases q63 : inW 63 (cN : Int)
  · rw [if_neg (not_not_intro q63), if_pos (show FITC (cN : Int) k v from Or.inr (Or.inl q63))]
  rw [if_pos q63]
  by_cases q64 : inW 64 (cN : Int)
  · rw [if_neg (not_not_intro q64)]
    have hiff : FITC (cN : Int) k v ↔ (k = 2 ∨ (k = 3 ∧ 32 ≤ v ∧ v ≤ 126)) := by
      unfold FITC
      constructor
      · rintro (y | y | y | y | y)
        · exact absurd y q0
        · exact absurd y q63
        · exact y.2
        · exact absurd y.1 (ex q64)
        · exact absurd q64 y.2.1
      · intro y; exact Or.inr (Or.inr (Or.inl ⟨q64, y⟩))
    by_cases r2 : k = 2
    · rw [if_pos r2, if_pos (hiff.mpr (Or.inl r2))]
    rw [if_neg r2]
    by_cases r3 : k = 3
    · rw [if_pos r3]
      by_cases w1 : v < 32
      · rw [if_pos w1, if_neg (fun y => by have := hiff.mp y; omega)]
      rw [if_neg w1]
      by_cases w2 : 126 < v
      · rw [if_pos w2, if_neg (fun y => by have := hiff.mp y; omega)]
      rw [if_neg w2, if_pos (hiff.mpr (by omega))]
    rw [if_neg r3, if_neg (fun y => by have := hiff.mp y; omega)]
  rw [if_pos q64]
  by_cases q65 : inW 53 (cN : Int) ∨ inW 51 (cN : Int)
  · rw [if_neg (not_not_intro q65)]
    have hiff : FITC (cN : Int) k v ↔ (k = 3 ∨ k = 4) := by
      unfold FITC
      constructor
      · rintro (y | y | y | y | y)
        · exact absurd y q0
        · exact absurd y q63
        · exact absurd y.1 q64
        · exact y.2
        · rcases q65 with z | z
          · exact absurd z y.2.2.1
          · exact absurd z y.2.2.2.1
      · intro y; exact Or.inr (Or.inr (Or.inr (Or.inl ⟨q65, y⟩)))
    by_cases r3 : k = 3
    · rw [if_pos r3, if_pos (hiff.mpr (Or.inl r3))]
    rw [if_neg r3]
    by_cases r4 : k = 4
    · rw [if_pos r4, if_pos (hiff.mpr (Or.inr r4))]
    rw [if_neg r4, if_neg (fun y => by have := hiff.mp y; omega)]
  · rw [if_pos q65]
    have hiff : FITC (cN : Int) k v ↔ (k = 5 ∨ k = 6) := by
      unfold FITC
      constructor
      · rintro (y | y | y | y | y)
        · exact absurd y q0
        · exact absurd y q63
        · exact absurd y.1 q64
        · exact absurd y.1 q65
        · exact y.2.2.2.2
      · intro y; exact Or.inr (Or.inr (Or.inr (Or.inr ⟨q63, q64, fun z => q65 (Or.inl z), fun z => q65 (Or.inr z), y⟩)))
    by_cases r3 : k = 5
    · rw [if_pos r3, if_pos (hiff.mpr (Or.inl r3))]
    rw [if_neg r3]
    by_cases r4 : k = 6
    · rw [if_pos r4, if_pos (hiff.mpr (Or.inr r4))]
    rw [if_neg r4, if_neg (fun y => by have := hiff.mp y; omega)]
set_option maxRecDepth 10000 in
def tkA (X : List Int32) (k : Nat) (nx sm : Int) : Int := if (ixP X (k + 1)).1 = 0 then nx else if (ixP X (k + 1)).1 = -1 then sm else (ixP X (k + 1)).1 - 1
set_option maxRecDepth 10000 in
def tkN (X : List Int32) (k : Nat) (nx : Int) : Int := if (ixP X (k + 1)).1 = 0 then nx + 1 else nx
set_option maxRecDepth 10000 in
theorem taken_spec {X : List Int32} {k : Nat} (hk : k < X.length) {nx sm : Int} (n0 : 0 ≤ nx) (n1 : nx ≤ 10000) (s0 : -1 ≤ sm) (s1 : sm ≤ 10000) {n : Nat} (hn : n ≤ 16) :
    f_Md_taken (iI (dAg X (k + 1))) (iI (dGv X (k + 1))) (iI nx) (iI n) (iI (dIm X (k + 1))) (iI sm) = some (iI (if 0 ≤ tkA X k nx sm ∧ tkA X k nx sm < n then tkA X k nx sm else -1), iI (tkN X k nx), iI (tkA X k nx sm)) := by
  have hi := ixP_b (X := X) (p := k + 1) (by omega)
  have t52 : ∀ a nx' : Int, -1 ≤ a → a ≤ 10000 → f_Md_taken_52 (iI a) (iI (dAg X (k + 1))) (iI (dGv X (k + 1))) (iI nx') (iI n) (iI (dIm X (k + 1))) (iI sm) = some (iI (if 0 ≤ a ∧ a < n then a else -1), iI nx', iI a) := by
    intro a nx' a0 a1
    unfold f_Md_taken_52 f_Md_taken_73
    by_cases q : a < 0
    · rw [if_pos (show iI a < 0 from by simp (disch := omega) only [iI_lit, iL_lit, iI_add, iI_sub, iI_mul, iI_neg, iL_add, iL_sub, iL_mul, iL_neg, iI_lt, iI_le, iI_eq, iL_lt, iL_le, iL_eqS, iI_c, iI_ok, iI_l, iL_i, iI_low, l_ushrI, l_shlI, l_shrI, i_shlI, i_shrI, i_ushrI, iI_div, iL_div, Int.toNat_natCast, Int.reduceToNat, iI_ofNat]; omega), if_neg (by omega)]; rfl
    · rw [if_neg (show ¬ iI a < 0 from by simp (disch := omega) only [iI_lit, iL_lit, iI_add, iI_sub, iI_mul, iI_neg, iL_add, iL_sub, iL_mul, iL_neg, iI_lt, iI_le, iI_eq, iL_lt, iL_le, iL_eqS, iI_c, iI_ok, iI_l, iL_i, iI_low, l_ushrI, l_shlI, l_shrI, i_shlI, i_shrI, i_ushrI, iI_div, iL_div, Int.toNat_natCast, Int.reduceToNat, iI_ofNat]; omega)]
      by_cases q2 : (n : Int) ≤ a
      · rw [if_pos (show iI (n : Int) ≤ iI a from by simp (disch := omega) only [iI_lit, iL_lit, iI_add, iI_sub, iI_mul, iI_neg, iL_add, iL_sub, iL_mul, iL_neg, iI_lt, iI_le, iI_eq, iL_lt, iL_le, iL_eqS, iI_c, iI_ok, iI_l, iL_i, iI_low, l_ushrI, l_shlI, l_shrI, i_shlI, i_shrI, i_ushrI, iI_div, iL_div, Int.toNat_natCast, Int.reduceToNat, iI_ofNat]; omega), if_neg (by omega)]; rfl
      · rw [if_neg (show ¬ iI (n : Int) ≤ iI a from by simp (disch := omega) only [iI_lit, iL_lit, iI_add, iI_sub, iI_mul, iI_neg, iL_add, iL_sub, iL_mul, iL_neg, iI_lt, iI_le, iI_eq, iL_lt, iL_le, iL_eqS, iI_c, iI_ok, iI_l, iL_i, iI_low, l_ushrI, l_shlI, l_shrI, i_shlI, i_shrI, i_ushrI, iI_div, iL_div, Int.toNat_natCast, Int.reduceToNat, iI_ofNat]; omega), if_pos (by omega)]
  unfold f_Md_taken f_Md_taken_34 tkA tkN
  by_cases q0 : (ixP X (k + 1)).1 = 0
  · have a1 : iI (dAg X (k + 1)) = 0 := by unfold dAg; rw [if_neg (by omega)]; rfl
    have a2 : iI (dGv X (k + 1)) = 0 := by unfold dGv; rw [if_pos q0]; rfl
    rw [if_pos a1, if_pos a2, if_pos a2]
    simp only [if_pos q0]
    rw [show (1 : Int32) = iI 1 from rfl, iI_add]
    exact t52 nx (nx + 1) (by omega) (by omega)
  · have a2 : ¬ iI (dGv X (k + 1)) = 0 := by unfold dGv; rw [if_neg q0]; decide
    simp only [if_neg q0, if_neg a2]
    by_cases q1 : (ixP X (k + 1)).1 = -1
    · have a1 : ¬ iI (dAg X (k + 1)) = 0 := by unfold dAg; rw [if_pos q1]; decide
      simp only [if_neg a1, if_pos q1]
      exact t52 sm nx s0 s1
    · have a1 : iI (dAg X (k + 1)) = 0 := by unfold dAg; rw [if_neg q1]; rfl
      simp only [if_pos a1, if_neg q1]
      have hm : dIm X (k + 1) = (ixP X (k + 1)).1 := by unfold dIm; rw [if_pos (by omega)]
      have := t52 ((ixP X (k + 1)).1 - 1) nx (by omega) (by omega)
      rw [hm] at this ⊢
      rw [show (1 : Int32) = iI 1 from rfl, iI_sub]
      exact this
set_option maxRecDepth 10000 in
theorem tk_b {X : List Int32} {k : Nat} (hk : k < X.length) {nx sm : Int} (n0 : 0 ≤ nx) (s0 : -1 ≤ sm) (s1 : sm ≤ 10000) {b : Int} (n1 : nx ≤ b) (hb : b ≤ 9000) : -1 ≤ tkA X k nx sm ∧ tkA X k nx sm ≤ 10000 ∧ 0 ≤ tkN X k nx ∧ tkN X k nx ≤ b + 1 := by
  have hi := ixP_b (X := X) (p := k + 1) (by omega)
  unfold tkA tkN
  split
  · omega
  · split <;> omega
set_option maxRecDepth 10000 in
theorem simple_n {L : Nat} (hL2 : L ≤ 150000) {E : List Int32} (hE : E.length < L) (w : Int32) (fc : Nat → Int32) {h : Int32} {c : Nat → Int32} {bl : Nat} (hM : MB h c bl E) (hbl : bl ≤ 400000) :
    OUT (fun r : Int32 × (Nat → Int32) × Nat => r.2.2) (f_Md_simple 110 h w fc c bl) bl L (fun r => MB r.1 r.2.1 r.2.2 (E ++ [iI 10])) := by
  unfold f_Md_simple
  apply OUT_mo
  rw [if_pos rfl]
  refine OUT_bind (OUT_put hM hE (by omega) hbl 10) (fun x hx g1 g2 => ?_)
  exact ⟨_, rfl, Nat.le_refl _, Nat.le_max_left _ _, hx⟩
set_option maxRecDepth 10000 in
theorem simple_p {L : Nat} (hL2 : L ≤ 150000) {E : List Int32} {w : Int} (hw0 : -1 ≤ w) (hw1 : w ≤ 9999) (hE : E.length + 20000 < L) (fc : Nat → Int32) {h : Int32} {c : Nat → Int32} {bl : Nat} (hM : MB h c bl E) (hbl : bl ≤ 400000) :
    OUT (fun r : Int32 × (Nat → Int32) × Nat => r.2.2) (f_Md_simple 37 h (iI w) fc c bl) bl L (fun r => MB r.1 r.2.1 r.2.2 (E ++ layP w [iI 37] (¬ fc 0 ≤ 0))) := by
  unfold f_Md_simple
  apply OUT_mo
  rw [if_neg (show ¬ (37 : Int32) = 110 from by decide)]
  refine OUT_bind (OUT_put hM (by omega) (by omega) hbl 37) (fun x hx g1 g2 => ?_)
  rw [hM.1]
  refine OUT_bind (padded_spec hL2 hw0 hw1 (by omega) (by simp; omega) fc hx (by omega)) (fun y hy g3 g4 => ?_)
  exact ⟨_, rfl, Nat.le_refl _, Nat.le_max_left _ _, hy⟩
-- TC
set_option maxRecDepth 10000 in
abbrev AGD (ag : AgT) (kd v u : Int) : Prop := (0 ≤ kd) ∧ (kd ≤ 7) ∧ (ag.1 = iI kd) ∧ (kd ≠ 7 → ag.2.1 = iL v) ∧ (-9223372036854775808 ≤ v) ∧ (v < 9223372036854775808) ∧ (0 ≤ u) ∧ (u < 18446744073709551616) ∧ (iL v = iL u)
set_option maxRecDepth 10000 in
theorem AGD.k0 {ag : AgT} {kd v u : Int} (h_ : AGD ag kd v u) : 0 ≤ kd := h_.1
set_option maxRecDepth 10000 in
theorem AGD.k7 {ag : AgT} {kd v u : Int} (h_ : AGD ag kd v u) : kd ≤ 7 := h_.2.1
set_option maxRecDepth 10000 in
theorem AGD.kk {ag : AgT} {kd v u : Int} (h_ : AGD ag kd v u) : ag.1 = iI kd := h_.2.2.1
set_option maxRecDepth 10000 in
theorem AGD.vl {ag : AgT} {kd v u : Int} (h_ : AGD ag kd v u) : kd ≠ 7 → ag.2.1 = iL v := h_.2.2.2.1
set_option maxRecDepth 10000 in
theorem AGD.v0 {ag : AgT} {kd v u : Int} (h_ : AGD ag kd v u) : -9223372036854775808 ≤ v := h_.2.2.2.2.1
set_option maxRecDepth 10000 in
theorem AGD.v1 {ag : AgT} {kd v u : Int} (h_ : AGD ag kd v u) : v < 9223372036854775808 := h_.2.2.2.2.2.1
set_option maxRecDepth 10000 in
theorem AGD.u0 {ag : AgT} {kd v u : Int} (h_ : AGD ag kd v u) : 0 ≤ u := h_.2.2.2.2.2.2.1
set_option maxRecDepth 10000 in
theorem AGD.u1 {ag : AgT} {kd v u : Int} (h_ : AGD ag kd v u) : u < 18446744073709551616 := h_.2.2.2.2.2.2.2.1
set_option maxRecDepth 10000 in
theorem AGD.vu {ag : AgT} {kd v u : Int} (h_ : AGD ag kd v u) : iL v = iL u := h_.2.2.2.2.2.2.2.2
set_option maxRecDepth 10000 in
def STP (T Q : List Int32) (P : List Int32 → Prop) (co pl : Int) : Prop := if 32768 < (T ++ Q).length then co = 5 ∧ pl = -1 else P (T ++ Q)
set_option maxRecDepth 10000 in
def RF (X : List Int32) (A : List AgT) : List Nat → Nat → Int → Int → List Int32 → Int → Int → List Int32 → Prop
  | [], fr, nx, sm, E, co, pl, R => if (E ++ X.drop fr).length ≤ 32768 then co = 0 ∧ pl = -1 ∧ R = E ++ X.drop fr else co = 5 ∧ pl = -1
  | k :: t, fr, nx, sm, E, co, pl, R =>
    if 32768 < (E ++ (X.take k).drop fr).length then co = 5 ∧ pl = -1
    else if dCv X (k + 1) = 110 then STP (E ++ (X.take k).drop fr) [iI 10] (fun E' => RF X A t (dP3 X (k + 1) + 1) nx sm E' co pl R) co pl
    else if dCv X (k + 1) = 37 then STP (E ++ (X.take k).drop fr) (layP (dWd X (k + 1)) [iI 37] (¬ iI (dCt X (k + 1) 0) ≤ 0)) (fun E' => RF X A t (dP3 X (k + 1) + 1) nx sm E' co pl R) co pl
    else if ¬ (0 ≤ tkA X k nx sm ∧ tkA X k nx sm < A.length) then co = 3 ∧ pl = k
    else ∃ kd v u ag, A[(tkA X k nx sm).toNat]? = some ag ∧ AGD ag kd v u ∧ (if ¬ FITC (dCv X (k + 1)) kd v then co = 4 ∧ pl = k else ∃ fc Q, (∀ x, x < 7 → fc x = iI (dCt X (k + 1) x)) ∧ DQ (dCv X (k + 1)) kd v u ag.2.2 (dPr X (k + 1)) (dWd X (k + 1)) fc Q ∧ STP (E ++ (X.take k).drop fr) Q (fun E' => RF X A t (dP3 X (k + 1) + 1) (tkN X k nx) (tkA X k nx sm) E' co pl R) co pl)
set_option maxRecDepth 10000 in
theorem drop_at {X : List Int32} {p : Nat} (hp : p < X.length) : X.drop p = X[p] :: X.drop (p + 1) := List.drop_eq_getElem_cons hp
set_option maxRecDepth 10000 in
theorem take_drop_at {X : List Int32} {p k : Nat} (hp : p < k) (hk : k ≤ X.length) : (X.take k).drop p = X[p] :: (X.take k).drop (p + 1) := by
  have hp' : p < (X.take k).length := by rw [List.length_take]; omega
  rw [List.drop_eq_getElem_cons hp', List.getElem_take]
set_option maxRecDepth 10000 in
theorem RF_lit {X : List Int32} {A : List AgT} {L : List Nat} {p : Nat} {nx sm co pl : Int} {E R : List Int32} (hp : p < X.length) (hL : ∀ k t, L = k :: t → p < k ∧ k ≤ X.length) (h : RF X A L (p + 1) nx sm (E ++ [X[p]]) co pl R) : RF X A L p nx sm E co pl R := by
  cases L with
  | nil =>
    unfold RF at h ⊢
    rw [drop_at hp]
    rw [List.append_assoc, List.singleton_append] at h
    exact h
  | cons k t =>
    obtain ⟨h1, h2⟩ := hL k t rfl
    unfold RF at h ⊢
    rw [take_drop_at h1 h2]
    rw [List.append_assoc, List.singleton_append] at h
    exact h
set_option maxRecDepth 10000 in
theorem RF_over {X : List Int32} {A : List AgT} {L : List Nat} {p : Nat} {nx sm : Int} {E R : List Int32} (hp : p < X.length) (hL : ∀ k t, L = k :: t → p < k ∧ k ≤ X.length) (h : 32768 < (E ++ [X[p]]).length) : RF X A L p nx sm E 5 (-1) R := by
  rw [List.length_append, List.length_singleton] at h
  cases L with
  | nil =>
    unfold RF
    rw [if_neg (show ¬ (E ++ X.drop p).length ≤ 32768 from by rw [drop_at hp, List.length_append, List.length_cons]; omega)]
    exact ⟨rfl, rfl⟩
  | cons k t =>
    obtain ⟨h1, h2⟩ := hL k t rfl
    unfold RF
    rw [if_pos (show 32768 < (E ++ (X.take k).drop p).length from by rw [take_drop_at h1 h2, List.length_append, List.length_cons]; omega)]
    exact ⟨rfl, rfl⟩
set_option maxRecDepth 10000 in
theorem fc_le {ct : Nat → Int} {fc : Nat → Int32} {x : Nat} (h : fc x = iI (ct x)) (h0 : 0 ≤ ct x) (h1 : ct x ≤ 100000) : (fc x ≤ 0) ↔ ¬ 1 ≤ ct x := by
  rw [h, show (0 : Int32) = iI 0 from rfl, iI_le (by omega) (by omega) (by omega) (by omega)]
  omega
set_option maxRecDepth 10000 in
theorem ADM_of {ct : Nat → Int} {wd pr cv ix : Int} (hcv : CVA cv) (hb : ¬ BAR ct wd pr cv ix) {fc : Nat → Int32} (hfc : ∀ x, x < 7 → fc x = iI (ct x)) (hct : ∀ x, x < 7 → 0 ≤ ct x ∧ ct x ≤ 100000) : ADM cv fc := by
  have le : ∀ x, x < 7 → ((fc x ≤ 0) ↔ ¬ 1 ≤ ct x) := fun x hx => fc_le (hfc x hx) (hct x hx).1 (hct x hx).2
  have no : ∀ x, x < 7 → (alM cv).testBit x = false → fc x ≤ 0 := fun x hx hm => (le x hx).mpr (fun y => hb (Or.inr (Or.inl ⟨x, hx, y, hm⟩)))
  obtain ⟨c0, c1⟩ := CVA_b hcv
  obtain ⟨a1, a2, a3, a4, a5⟩ := inW_le hcv
  refine ⟨?_, ?_, ?_, ?_⟩
  · rw [le 4 (by omega), le 0 (by omega)]
    intro y
    exact hb (Or.inr (Or.inr (Or.inl ⟨by omega, by omega⟩)))
  · intro h
    apply no 1 (by omega)
    have : cv = 103 ∨ cv = 71 := by
      unfold flLe at h
      split at h
      · omega
      · split at h
        · omega
        · split at h
          · assumption
          · omega
    rcases this with rfl | rfl <;> decide
  · intro h
    have h1 : alM cv = 1 := by
      rw [a1] at h
      unfold CVA at hcv
      unfold leV at h
      have : cv = 115 ∨ cv = 83 ∨ cv = 98 ∨ cv = 66 := by split at h <;> omega
      rcases this with rfl | rfl | rfl | rfl <;> decide
    exact ⟨no 6 (by omega) (by rw [h1]; decide), no 2 (by omega) (by rw [h1]; decide), no 3 (by omega) (by rw [h1]; decide), no 5 (by omega) (by rw [h1]; decide)⟩
  · intro h
    have h1 : alM cv = 1 := by
      rw [a2] at h
      unfold CVA at hcv
      unfold leV at h
      have : cv = 99 ∨ cv = 67 := by split at h <;> omega
      rcases this with rfl | rfl <;> decide
    exact no 4 (by omega) (by rw [h1]; decide)
set_option maxRecDepth 10000 in
theorem CNV_CVA {b : Int} (h : CNV b) (h1 : ¬ b = 110) (h2 : ¬ b = 37) : CVA b := by
  rcases h with y | y | y
  · exact y
  · exact absurd y h2
  · exact absurd y h1
set_option maxRecDepth 10000 in
theorem long_su (x : Int64) : ∃ v u : Int, -9223372036854775808 ≤ v ∧ v < 9223372036854775808 ∧ 0 ≤ u ∧ u < 18446744073709551616 ∧ x = iL v ∧ iL v = iL u := by
  refine ⟨x.toInt, x.toInt % 18446744073709551616, ?_, ?_, by omega, by omega, ?_, ?_⟩
  · have := Int64.le_toInt x; omega
  · have := Int64.toInt_lt x; omega
  · unfold iL; exact (Int64.ofInt_toInt x).symm
  · exact (iL_emod _).symm
set_option maxRecDepth 10000 in
theorem layP_len {w : Int} (hw1 : w ≤ 9999) (T : List Int32) (lf : Prop) [Decidable lf] : (layP w T lf).length ≤ 9999 + T.length := by
  unfold layP
  split <;> (rw [List.length_append, spE_len]; omega)
set_option maxRecDepth 10000 in
theorem layT_len {w : Int} (hw1 : w ≤ 9999) (H B : List Int32) (cl up zr lf : Prop) [Decidable cl] [Decidable up] [Decidable zr] [Decidable lf] : (layT w H B cl up zr lf).length ≤ 19998 + H.length + B.length + 1 := by
  unfold layT
  have h41 : (if cl then [iI 41] else []).length ≤ 1 := by split <;> simp
  have s1 : ∀ (P : Prop) [Decidable P] (x : Int32), (if P then spE (w - H.length - B.length - (if cl then 1 else 0)) x else []).length ≤ 9999 := by
    intro P _ x
    split
    · rw [spE_len]; split <;> omega
    · simp
  simp only [List.length_append, upE_len]
  have a2 := s1 zr (iI 48)
  have a3 := s1 lf (iI 32)
  by_cases q : ¬ lf ∧ ¬ zr
  · have a1 := s1 (¬ lf ∧ ¬ zr) (iI 32)
    have z2 : (if zr then spE (w - H.length - B.length - (if cl then 1 else 0)) (iI 48) else []).length = 0 := by rw [if_neg q.2]; rfl
    omega
  · have z1 : (if ¬ lf ∧ ¬ zr then spE (w - H.length - B.length - (if cl then 1 else 0)) (iI 32) else []).length = 0 := by rw [if_neg q]; rfl
    omega
set_option maxRecDepth 10000 in
theorem TLD_len {bb : Prop} [Decidable bb] {k v u : Int} {X T : List Int32} (k0 : 0 ≤ k) (k7 : k ≤ 7) (v0 : -9223372036854775808 ≤ v) (v1 : v < 9223372036854775808) (hX : k = 7 → X.length ≤ 200) (hT : TLD bb k v u X T) : T.length ≤ 5000 := by
  unfold TLD at hT
  have l1 : (litL 67).length ≤ 10 := by decide
  have l2 : (litL 68).length ≤ 10 := by decide
  have l3 : (litL 69).length ≤ 10 := by decide
  split at hT
  · rw [hT]; split <;> omega
  · split at hT
    · rw [hT]; omega
    · split at hT
      · rw [hT]; split <;> omega
      · split at hT
        · rw [hT]; simp
        · split at hT
          · rw [hT]; have := spl_20 v0 v1; omega
          · split at hT
            · rename_i q7; rw [hT]; have := hX q7; omega
            · have := shM_len (by split <;> omega) hT; omega
set_option maxRecDepth 10000 in
theorem DQ_len {cv kd v u pr w : Int} {X Q : List Int32} {fc : Nat → Int32} (hcv : CVA cv) (hf : FITC cv kd v) (k0 : 0 ≤ kd) (k7 : kd ≤ 7) (v0 : -9223372036854775808 ≤ v) (v1 : v < 9223372036854775808) (u0 : 0 ≤ u) (u1 : u < 18446744073709551616) (p0 : -1 ≤ pr) (p1 : pr ≤ 9999) (w0 : -1 ≤ w) (w1 : w ≤ 9999) (hX : kd = 7 → X.length ≤ 200) (h : DQ cv kd v u X pr w fc Q) : Q.length ≤ 31000 := by
  unfold DQ at h
  split at h
  · obtain ⟨T, hT, rfl⟩ := h
    have := TLD_len k0 k7 v0 v1 hX hT
    have h2 := cutT_len pr T
    have h3 := layP_len w1 (cutT pr T) (¬ fc 0 ≤ 0)
    rw [upE_len]; omega
  · split at h
    · rw [h, upE_len]
      have h3 := layP_len w1 [sb (iI v)] (¬ fc 0 ≤ 0)
      rw [List.length_singleton] at h3
      omega
    · split at h
      · obtain ⟨d, hR, rfl⟩ := h
        have hx : 0 ≤ unX kd u ∧ unX kd u < 18446744073709551616 := by unfold unX; split <;> omega
        obtain ⟨d', hR', hd'⟩ := RN_ex hx.1 hx.2 (st := unS cv) (by unfold unS; split <;> omega)
        have := RN_uniq hR hR'
        have h3 := layT_len w1 (unP cv fc) (rdxL (unX kd u) (unS cv) d) False False (¬ fc 4 ≤ 0) (¬ fc 0 ≤ 0)
        have h4 : (unP cv fc).length ≤ 4 := by
          have hl : (litL 71).length ≤ 4 ∧ (litL 72).length ≤ 4 := by decide
          unfold unP; split; simp; split; exact hl.1; exact hl.2
        rw [rdxL_len] at h3
        rw [upE_len]; omega
      · split at h
        · rw [h, upE_len]
          have h3 := layT_len w1 (sgM (iI (if v < 0 then 1 else 0)) 0 fc) (wholeD v (¬ fc 5 ≤ 0)) (rdM (iI (if v < 0 then 1 else 0)) fc) False (¬ fc 4 ≤ 0) (¬ fc 0 ≤ 0)
          have h4 := sgM_len (iI (if v < 0 then 1 else 0)) 0 fc
          have h5 := wholeE_len (digF v.natAbs) ((nd1 v.natAbs : Nat) : Int) (¬ fc 5 ≤ 0)
          have h20 := spl_20 v0 v1
          rw [spl_len] at h20
          have e : wholeD v (¬ fc 5 ≤ 0) = wholeE (digF v.natAbs) ((nd1 v.natAbs : Nat) : Int) (¬ fc 5 ≤ 0) := rfl
          rw [e] at h3 ⊢
          omega
        · obtain ⟨Q0, hQ0, rfl⟩ := h
          rw [upE_len]
          have hs : (if kd = 6 then 0 else 1) < 2 := by split <;> omega
          generalize (if kd = 6 then 0 else 1) = s at hQ0 hs
          have hsl := sgM_len (iI (biS s u)) (iI (biN s u)) fc
          have hox : (oxE s u).length ≤ 2 := by unfold oxE; split <;> simp
          unfold FQ at hQ0
          split at hQ0
          · obtain ⟨T, hT, rfl⟩ := hQ0
            have h1 := realA_len hT
            have h3 := layT_len w1 (sgM (iI (biS s u)) (iI (biN s u)) fc ++ oxE s u) T (rdM (iI (biS s u)) fc) False (¬ fc 4 ≤ 0 ∧ ¬ (biN s u = 1 ∨ biI s u = 1)) (¬ fc 0 ≤ 0)
            rw [List.length_append] at h3
            omega
          · rw [hQ0]
            have h1 := realT_len hs u0 (a := if pr = -1 then 6 else pr) (by split <;> omega) (by split <;> omega) (flLe cv) (¬ fc 5 ≤ 0) (¬ fc 1 ≤ 0)
            have hpn : (if pr = -1 then 6 else pr).toNat ≤ 9999 := by split <;> omega
            have h3 := layT_len w1 (sgM (iI (biS s u)) (iI (biN s u)) fc) (realT s u (flLe cv) (if pr = -1 then 6 else pr) (¬ fc 5 ≤ 0) (¬ fc 1 ≤ 0)) (rdM (iI (biS s u)) fc) False (¬ fc 4 ≤ 0 ∧ ¬ (biN s u = 1 ∨ biI s u = 1)) (¬ fc 0 ≤ 0)
            omega
