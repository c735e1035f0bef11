-- US
set_option maxRecDepth 10000 in
def fgI (b : Int) : Int := if b = 45 then 0 else if b = 35 then 1 else if b = 43 then 2 else if b = 32 then 3 else if b = 48 then 4 else if b = 44 then 5 else if b = 40 then 6 else -1
set_option maxRecDepth 10000 in
theorem fgI_b (b : Int) : -1 ≤ fgI b ∧ fgI b < 7 := by unfold fgI; (repeat' split) <;> omega
set_option maxRecDepth 10000 in
theorem fgI_hi {b : Int} (h : b < 0 ∨ 128 ≤ b) : fgI b = -1 := by
  unfold fgI
  rw [if_neg (by omega), if_neg (by omega), if_neg (by omega), if_neg (by omega), if_neg (by omega), if_neg (by omega), if_neg (by omega)]
set_option maxRecDepth 10000 in
theorem ix30_all : ∀ b : Fin 256, f_JStr_indexOf 30 (((iI (b.val : Int)).toUInt32 % 65536).toInt32) = some (iI (fgI b.val)) := by decide +kernel
set_option maxRecDepth 10000 in
theorem ix48_all : ∀ b : Fin 128, f_JStr_indexOf 48 (iI (b.val : Int)) = some (iI (fgI b.val)) := by decide +kernel
set_option maxRecDepth 10000 in
theorem ix30 {b : Int} (h0 : 0 ≤ b) (h1 : b < 256) : f_JStr_indexOf 30 (((iI b).toUInt32 % 65536).toInt32) = some (iI (fgI b)) := by
  obtain ⟨c, rfl⟩ : ∃ c : Nat, b = (c : Int) := ⟨b.toNat, by omega⟩
  exact ix30_all ⟨c, by omega⟩
set_option maxRecDepth 10000 in
theorem flagOf_spec {b : Int} (h0 : 0 ≤ b) (h1 : b < 128) : f_Md_flagOf (iI b) = some (iI (fgI b)) := by
  obtain ⟨c, rfl⟩ : ∃ c : Nat, b = (c : Int) := ⟨b.toNat, by omega⟩
  unfold f_Md_flagOf
  rw [ix48_all ⟨c, by omega⟩]; rfl
set_option maxRecDepth 10000 in
theorem has30 {b : Int} (h0 : -1 ≤ b) (h1 : b < 256) : f_Fm_has 30 (iI b) = some (iI (if 0 ≤ fgI b then 1 else 0)) := by
  unfold f_Fm_has f_Fm_has_17
  have hf := fgI_b b
  by_cases q : b < 0
  · rw [if_pos (show iI b < 0 from by simp (disch := omega) only [iI_lit, iL_lit, iI_add, iI_sub, iI_mul, iI_neg, iL_add, iL_sub, iL_mul, iL_neg, iI_lt, iI_le, iI_eq, iL_lt, iL_le, iL_eqS, iI_c, iI_ok, iI_l, iL_i, iI_low, l_ushrI, l_shlI, l_shrI, i_shlI, i_shrI, i_ushrI, iI_div, iL_div, Int.toNat_natCast, Int.reduceToNat, iI_ofNat]; omega), fgI_hi (Or.inl q)]; rfl
  · rw [if_neg (show ¬ iI b < 0 from by simp (disch := omega) only [iI_lit, iL_lit, iI_add, iI_sub, iI_mul, iI_neg, iL_add, iL_sub, iL_mul, iL_neg, iI_lt, iI_le, iI_eq, iL_lt, iL_le, iL_eqS, iI_c, iI_ok, iI_l, iL_i, iI_low, l_ushrI, l_shlI, l_shrI, i_shlI, i_shrI, i_ushrI, iI_div, iL_div, Int.toNat_natCast, Int.reduceToNat, iI_ofNat]; omega), if_pos (by decide), ix30 (by omega) h1, Option.bind_some]
    by_cases q2 : fgI b < 0
    · rw [if_pos (show iI (fgI b) < 0 from by simp (disch := omega) only [iI_lit, iL_lit, iI_add, iI_sub, iI_mul, iI_neg, iL_add, iL_sub, iL_mul, iL_neg, iI_lt, iI_le, iI_eq, iL_lt, iL_le, iL_eqS, iI_c, iI_ok, iI_l, iL_i, iI_low, l_ushrI, l_shlI, l_shrI, i_shlI, i_shrI, i_ushrI, iI_div, iL_div, Int.toNat_natCast, Int.reduceToNat, iI_ofNat]; omega), if_neg (by omega)]; rfl
    · rw [if_neg (show ¬ iI (fgI b) < 0 from by simp (disch := omega) only [iI_lit, iL_lit, iI_add, iI_sub, iI_mul, iI_neg, iL_add, iL_sub, iL_mul, iL_neg, iI_lt, iI_le, iI_eq, iL_lt, iL_le, iL_eqS, iI_c, iI_ok, iI_l, iL_i, iI_low, l_ushrI, l_shlI, l_shrI, i_shlI, i_shrI, i_ushrI, iI_div, iL_div, Int.toNat_natCast, Int.reduceToNat, iI_ofNat]; omega), if_pos (by omega)]; rfl
set_option maxRecDepth 10000 in
def updI (f : Nat → Int) (k : Nat) (x : Int) : Nat → Int := fun j => if j = k then x else f j
set_option maxRecDepth 10000 in
def rdF (X : List Int32) : Nat → (Nat → Int) → Nat → (Nat → Int) × Nat
  | 0, ct, i => (ct, i)
  | d + 1, ct, i => if 0 ≤ fgI (hq X i) then rdF X d (updI ct (fgI (hq X i)).toNat (ct (fgI (hq X i)).toNat + 1)) (i + 1) else (ct, i)
set_option maxRecDepth 10000 in
theorem rdF_b (X : List Int32) : ∀ d ct i, i ≤ (rdF X d ct i).2 ∧ (rdF X d ct i).2 ≤ i + d
  | 0, ct, i => by unfold rdF; simp
  | d + 1, ct, i => by
    unfold rdF
    split
    · have := rdF_b X d (updI ct (fgI (hq X i)).toNat (ct (fgI (hq X i)).toNat + 1)) (i + 1)
      omega
    · simp
set_option maxRecDepth 10000 in
def fN (X : List Int32) (i : Nat) : (Nat → Int) × Nat := rdF X (X.length - i) (fun _ => 0) i
set_option maxRecDepth 10000 in
theorem fN_b {X : List Int32} {i : Nat} (h : i ≤ X.length) : i ≤ (fN X i).2 ∧ (fN X i).2 ≤ X.length := by
  have := rdF_b X (X.length - i) (fun _ => 0) i
  unfold fN; omega
set_option maxRecDepth 10000 in
theorem fN_0 {X : List Int32} {i : Nat} (h : ¬ 0 ≤ fgI (hq X i)) : fN X i = (fun _ => 0, i) := by
  unfold fN
  cases hh : X.length - i with
  | zero => rfl
  | succ d => unfold rdF; rw [if_neg h]
set_option maxRecDepth 10000 in
def FLX (m : Nat) (ct : Nat → Int) : Prop := m < 256 ∧ (∀ i, i < 7 → (m.testBit i = true ↔ 1 ≤ ct i)) ∧ (m.testBit 7 = true ↔ ∃ i, i < 7 ∧ 2 ≤ ct i) ∧ ∀ i, i < 7 → 0 ≤ ct i
set_option maxRecDepth 10000 in
def stM (m f : Nat) : Nat := if m.testBit f = true then m ||| 128 else m ||| 2 ^ f
set_option maxRecDepth 10000 in
theorem stM_all : ∀ m : Fin 256, ∀ f : Fin 7, stM m.val f.val < 256 ∧ (∀ i : Fin 7, (stM m.val f.val).testBit i.val = (m.val.testBit i.val || decide (i = f))) ∧ (stM m.val f.val).testBit 7 = (m.val.testBit 7 || m.val.testBit f.val) := by decide +kernel
set_option maxRecDepth 10000 in
theorem bits_all : ∀ m : Fin 256, ∀ f : Fin 7, ((iI (m.val : Int) &&& ((1 : Int32) <<< (iI (f.val : Int) &&& 31)) = 0) ↔ m.val.testBit f.val = false) ∧ (iI (m.val : Int) ||| (if m.val.testBit f.val = true then (128 : Int32) else ((1 : Int32) <<< (iI (f.val : Int) &&& 31)))) = iI (stM m.val f.val : Nat) := by decide +kernel
set_option maxRecDepth 10000 in
theorem FLX_0 : FLX 0 (fun _ => 0) := by
  refine ⟨by omega, fun i hi => ?_, ?_, fun _ _ => by simp⟩
  · simp
  · simp
set_option maxRecDepth 10000 in
theorem FLX_st {m : Nat} {ct : Nat → Int} (h : FLX m ct) {f : Nat} (hf : f < 7) : FLX (stM m f) (updI ct f (ct f + 1)) := by
  obtain ⟨h1, h2, h3, h4⟩ := h
  obtain ⟨s1, s2, s3⟩ := stM_all ⟨m, h1⟩ ⟨f, hf⟩
  simp only at s1 s2 s3
  have h0 := h4 f hf
  refine ⟨s1, fun i hi => ?_, ?_, fun i hi => ?_⟩
  · have := s2 ⟨i, hi⟩
    simp only [Fin.mk.injEq] at this
    rw [this]
    unfold updI
    by_cases q : i = f
    · subst q; rw [if_pos rfl]; simp; omega
    · rw [if_neg q]; simp [q]; exact h2 i hi
  · rw [s3, Bool.or_eq_true, h3, h2 f hf]
    constructor
    · rintro (⟨i, hi, hc⟩ | hc)
      · refine ⟨i, hi, ?_⟩
        unfold updI
        split
        · rename_i e; subst e; omega
        · exact hc
      · exact ⟨f, hf, by unfold updI; rw [if_pos rfl]; omega⟩
    · rintro ⟨i, hi, hc⟩
      unfold updI at hc
      split at hc
      · right; omega
      · left; exact ⟨i, hi, hc⟩
  · unfold updI
    split
    · omega
    · exact h4 i hi
set_option maxRecDepth 10000 in
theorem upd_upd (c : Nat → Int32) (j : Nat) (a b : Int32) : upd (upd c j a) j b = upd c j b := by
  funext k; unfold upd; split <;> rfl
set_option maxRecDepth 10000 in
theorem flags_loop {n : Nat} (hn : n < 900000) {len over : Int32} {c : Nat → Int32} {X : List Int32} (h : BY n len over c X) (hX : X.length ≤ n) {j : Nat} (hj : j < 500) (fl wd : Nat → Int32) : ∀ (d k m i : Nat) (ct : Nat → Int), i + d = X.length → d < k → FLX m ct → ∃ m', FLX m' (rdF X d ct i).1 ∧ f_Fm_readFlagsAndWidth_0 k (iI j) n (iI i) len c (upd fl j (iI m)) wd = f_Fm_readFlagsAndWidth_93 (iI j) n (iI ((rdF X d ct i).2 : Nat)) len c (upd fl j (iI m')) wd := by
  have hlen : len = iI (X.length : Int) := by rw [h.1]; congr 2; omega
  have hok : gx_ok (iI (j : Int)) 500 = true := by simp (disch := omega) only [iI_lit, iL_lit, iI_add, iI_sub, iI_mul, iI_neg, iL_add, iL_sub, iL_mul, iL_neg, iI_lt, iI_le, iI_eq, iL_lt, iL_le, iL_eqS, iI_c, iI_ok, iI_l, iL_i, iI_low, l_ushrI, l_shlI, l_shrI, i_shlI, i_shrI, i_ushrI, iI_div, iL_div, Int.toNat_natCast, Int.reduceToNat, iI_ofNat]; omega
  intro d
  induction d with
  | zero =>
    intro k m i ct hd hk hF
    obtain ⟨k, rfl⟩ : ∃ x, k = x + 1 := ⟨k - 1, by omega⟩
    unfold f_Fm_readFlagsAndWidth_0 rdF
    rw [if_pos (show len ≤ iI (i : Int) from by rw [hlen]; simp (disch := omega) only [iI_lit, iL_lit, iI_add, iI_sub, iI_mul, iI_neg, iL_add, iL_sub, iL_mul, iL_neg, iI_lt, iI_le, iI_eq, iL_lt, iL_le, iL_eqS, iI_c, iI_ok, iI_l, iL_i, iI_low, l_ushrI, l_shlI, l_shrI, i_shlI, i_shrI, i_ushrI, iI_div, iL_div, Int.toNat_natCast, Int.reduceToNat, iI_ofNat]; omega)]
    exact ⟨m, hF, rfl⟩
  | succ d ih =>
    intro k m i ct hd hk hF
    obtain ⟨k, rfl⟩ : ∃ x, k = x + 1 := ⟨k - 1, by omega⟩
    have hb := hq_b X i
    have hf := fgI_b (hq X i)
    have hp := hq_pos (X := X) (i := i) (by omega)
    unfold f_Fm_readFlagsAndWidth_0 rdF
    rw [if_neg (show ¬ len ≤ iI (i : Int) from by rw [hlen]; simp (disch := omega) only [iI_lit, iL_lit, iI_add, iI_sub, iI_mul, iI_neg, iL_add, iL_sub, iL_mul, iL_neg, iI_lt, iI_le, iI_eq, iL_lt, iL_le, iL_eqS, iI_c, iI_ok, iI_l, iL_i, iI_low, l_ushrI, l_shlI, l_shrI, i_shlI, i_shrI, i_ushrI, iI_div, iL_div, Int.toNat_natCast, Int.reduceToNat, iI_ofNat]; omega), bat_q (by omega) h hX (by omega), Option.bind_some, has30 hb.1 hb.2, Option.bind_some]
    by_cases q : 0 ≤ fgI (hq X i)
    · simp only [if_pos q, if_neg (show ¬ iI 1 = 0 from by decide), Option.bind_some]
      rw [ix30 hp hb.2, Option.bind_some]
      simp only [if_pos hok]
      rw [iI_c (by omega) (by omega), Int.toNat_natCast, upd_s]
      obtain ⟨f, hfe⟩ : ∃ f : Nat, fgI (hq X i) = (f : Int) := ⟨(fgI (hq X i)).toNat, by omega⟩
      rw [hfe, Int.toNat_natCast]
      have hf7 : f < 7 := by omega
      obtain ⟨b1, b2⟩ := bits_all ⟨m, hF.1⟩ ⟨f, hf7⟩
      simp only at b1 b2
      unfold f_Fm_readFlagsAndWidth_78
      simp only [if_pos hok]
      rw [iI_c (by omega) (by omega), Int.toNat_natCast]
      have e2 : iI (i : Int) + (1 : Int32) = iI ((i + 1 : Nat) : Int) := by rw [show (1 : Int32) = iI 1 from rfl, iI_add]; rfl
      rw [e2]
      have ih' := ih k (stM m f) (i + 1) _ (by omega) (by omega) (FLX_st hF hf7)
      by_cases q2 : m.testBit f = true
      · rw [if_neg (fun y => by rw [b1.mp y] at q2; exact absurd q2 (by decide))]
        rw [if_pos q2] at b2
        rw [b2, upd_upd]
        exact ih'
      · have q3 : m.testBit f = false := by simpa using q2
        rw [if_pos (b1.mpr q3)]
        rw [if_neg q2] at b2
        rw [b2, upd_upd]
        exact ih'
    · simp only [if_neg q, if_pos (show iI 0 = 0 from rfl)]
      exact ⟨m, hF, rfl⟩
set_option maxRecDepth 10000 in
theorem rfw_spec {n : Nat} (hn : n < 900000) {len over : Int32} {c : Nat → Int32} {X : List Int32} (h : BY n len over c X) (hX : X.length ≤ n) {j : Nat} (hj : j < 500) (fl wd : Nat → Int32) {i : Nat} (hi : i ≤ X.length) : ∃ m', FLX m' (fN X i).1 ∧ f_Fm_readFlagsAndWidth (iI j) n (iI i) len c (upd fl j (iI (0 : Nat))) wd = some (iI ((dN X (fN X i).2).2 : Nat), upd fl j (iI m'), if (dN X (fN X i).2).2 = (fN X i).2 then wd else upd wd j (iI (dN X (fN X i).2).1)) := by
  have hok : gx_ok (iI (j : Int)) 500 = true := by simp (disch := omega) only [iI_lit, iL_lit, iI_add, iI_sub, iI_mul, iI_neg, iL_add, iL_sub, iL_mul, iL_neg, iI_lt, iI_le, iI_eq, iL_lt, iL_le, iL_eqS, iI_c, iI_ok, iI_l, iL_i, iI_low, l_ushrI, l_shlI, l_shrI, i_shlI, i_shrI, i_ushrI, iI_div, iL_div, Int.toNat_natCast, Int.reduceToNat, iI_ofNat]; omega
  obtain ⟨m', hF, e⟩ := flags_loop hn h hX hj fl wd (X.length - i) gx_fu 0 i (fun _ => 0) (by omega) (by have := fu_big; omega) FLX_0
  refine ⟨m', hF, ?_⟩
  unfold f_Fm_readFlagsAndWidth
  rw [e]
  have hb2 := fN_b (X := X) (i := i) hi
  have hfe : rdF X (X.length - i) (fun _ => 0) i = fN X i := rfl
  rw [hfe]
  have hb := hq_b X (fN X i).2
  unfold f_Fm_readFlagsAndWidth_93
  rw [bat_q (by omega) h hX (by omega), Option.bind_some, ntdig_spec hb.1 hb.2, Option.bind_some]
  by_cases q : 48 ≤ hq X (fN X i).2 ∧ hq X (fN X i).2 ≤ 57
  · rw [if_pos q, if_neg (show ¬ iI 1 = 0 from by decide), readNumber_spec (by omega) h hX hb2.2, Option.bind_some, if_pos hok, iI_c (by omega) (by omega), Int.toNat_natCast, if_neg (show ¬ (dN X (fN X i).2).2 = (fN X i).2 by have := dN_1 q; omega)]
  · rw [if_neg q, if_pos (show iI 0 = 0 from rfl), dN_0 q, if_pos rfl]
set_option maxRecDepth 10000 in
theorem mflags_loop {N : Nat} {t : Int32} {c : Nat → Int32} {X : List Int32} (h : TP t c X) (hX : X.length ≤ N) (hN : N ≤ 900000) (w pr ix ag gv cv : Int32) : ∀ (d k i : Nat) (ct : Nat → Int) (fl : Nat → Int32), i + d = X.length → d < k → (∀ x, x < 7 → fl x = iI (ct x)) → ∃ fl', (∀ x, x < 7 → fl' x = iI ((rdF X d ct i).1 x)) ∧ f_Md_directive_202 k N (iI i) (iI X.length) c w pr fl ix ag gv cv = f_Md_directive_276 N (iI ((rdF X d ct i).2 : Nat)) (iI X.length) c w pr fl' ix ag gv cv := by
  intro d
  induction d with
  | zero =>
    intro k i ct fl hd hk hF
    obtain ⟨k, rfl⟩ : ∃ x, k = x + 1 := ⟨k - 1, by omega⟩
    unfold f_Md_directive_202 rdF
    rw [if_pos (show iI (X.length : Int) ≤ iI (i : Int) from by simp (disch := omega) only [iI_lit, iL_lit, iI_add, iI_sub, iI_mul, iI_neg, iL_add, iL_sub, iL_mul, iL_neg, iI_lt, iI_le, iI_eq, iL_lt, iL_le, iL_eqS, iI_c, iI_ok, iI_l, iL_i, iI_low, l_ushrI, l_shlI, l_shrI, i_shlI, i_shrI, i_ushrI, iI_div, iL_div, Int.toNat_natCast, Int.reduceToNat, iI_ofNat]; omega)]
    exact ⟨fl, hF, rfl⟩
  | succ d ih =>
    intro k i ct fl hd hk hF
    obtain ⟨k, rfl⟩ : ∃ x, k = x + 1 := ⟨k - 1, by omega⟩
    have hok : gx_ok (iI (i : Int)) N = true := by simp (disch := omega) only [iI_lit, iL_lit, iI_add, iI_sub, iI_mul, iI_neg, iL_add, iL_sub, iL_mul, iL_neg, iI_lt, iI_le, iI_eq, iL_lt, iL_le, iL_eqS, iI_c, iI_ok, iI_l, iL_i, iI_low, l_ushrI, l_shlI, l_shrI, i_shlI, i_shrI, i_ushrI, iI_div, iL_div, Int.toNat_natCast, Int.reduceToNat, iI_ofNat]; omega
    obtain ⟨a, a0, a1, ea, eh⟩ := fm_at h (i := i) (by omega)
    have hf := fgI_b (hq X i)
    unfold f_Md_directive_202 rdF
    rw [if_neg (show ¬ iI (X.length : Int) ≤ iI (i : Int) from by simp (disch := omega) only [iI_lit, iL_lit, iI_add, iI_sub, iI_mul, iI_neg, iL_add, iL_sub, iL_mul, iL_neg, iI_lt, iI_le, iI_eq, iL_lt, iL_le, iL_eqS, iI_c, iI_ok, iI_l, iL_i, iI_low, l_ushrI, l_shlI, l_shrI, i_shlI, i_shrI, i_ushrI, iI_div, iL_div, Int.toNat_natCast, Int.reduceToNat, iI_ofNat]; omega)]
    simp only [if_pos hok]
    rw [iI_c (by omega) (by omega), Int.toNat_natCast, ea]
    by_cases q1 : a ≤ 0
    · have : ¬ 0 ≤ fgI (hq X i) := by
        rw [eh]
        by_cases z : 0 ≤ a
        · rw [if_pos z, show a = 0 by omega]; decide
        · rw [if_neg z, fgI_hi (Or.inr (by omega))]; decide
      rw [if_pos (show iI a ≤ 0 from by simp (disch := omega) only [iI_lit, iL_lit, iI_add, iI_sub, iI_mul, iI_neg, iL_add, iL_sub, iL_mul, iL_neg, iI_lt, iI_le, iI_eq, iL_lt, iL_le, iL_eqS, iI_c, iI_ok, iI_l, iL_i, iI_low, l_ushrI, l_shlI, l_shrI, i_shlI, i_shrI, i_ushrI, iI_div, iL_div, Int.toNat_natCast, Int.reduceToNat, iI_ofNat]; omega)]
      simp only [if_neg this]
      exact ⟨fl, hF, rfl⟩
    · rw [if_neg (show ¬ iI a ≤ 0 from by simp (disch := omega) only [iI_lit, iL_lit, iI_add, iI_sub, iI_mul, iI_neg, iL_add, iL_sub, iL_mul, iL_neg, iI_lt, iI_le, iI_eq, iL_lt, iL_le, iL_eqS, iI_c, iI_ok, iI_l, iL_i, iI_low, l_ushrI, l_shlI, l_shrI, i_shlI, i_shrI, i_ushrI, iI_div, iL_div, Int.toNat_natCast, Int.reduceToNat, iI_ofNat]; omega), flagOf_spec (by omega) (by omega), Option.bind_some]
      rw [if_pos (show 0 ≤ a by omega)] at eh
      rw [eh] at hf ⊢
      by_cases q : 0 ≤ fgI a
      · rw [if_neg (show ¬ iI (fgI a) < 0 from by simp (disch := omega) only [iI_lit, iL_lit, iI_add, iI_sub, iI_mul, iI_neg, iL_add, iL_sub, iL_mul, iL_neg, iI_lt, iI_le, iI_eq, iL_lt, iL_le, iL_eqS, iI_c, iI_ok, iI_l, iL_i, iI_low, l_ushrI, l_shlI, l_shrI, i_shlI, i_shrI, i_ushrI, iI_div, iL_div, Int.toNat_natCast, Int.reduceToNat, iI_ofNat]; omega), Option.bind_some]
        simp only [if_pos q]
        obtain ⟨f, hfe⟩ : ∃ f : Nat, fgI a = (f : Int) := ⟨(fgI a).toNat, by omega⟩
        rw [hfe, Int.toNat_natCast]
        have hokf : gx_ok (iI (f : Int)) 7 = true := by simp (disch := omega) only [iI_lit, iL_lit, iI_add, iI_sub, iI_mul, iI_neg, iL_add, iL_sub, iL_mul, iL_neg, iI_lt, iI_le, iI_eq, iL_lt, iL_le, iL_eqS, iI_c, iI_ok, iI_l, iL_i, iI_low, l_ushrI, l_shlI, l_shrI, i_shlI, i_shrI, i_ushrI, iI_div, iL_div, Int.toNat_natCast, Int.reduceToNat, iI_ofNat]; omega
        simp only [if_pos hokf]
        rw [iI_c (by omega) (by omega), Int.toNat_natCast]
        have e2 : iI (i : Int) + (1 : Int32) = iI ((i + 1 : Nat) : Int) := by rw [show (1 : Int32) = iI 1 from rfl, iI_add]; rfl
        rw [e2]
        refine ih k (i + 1) _ _ (by omega) (by omega) (fun x hx => ?_)
        unfold upd updI
        by_cases z : x = f
        · rw [if_pos z, if_pos z, hF f (by omega), show (1 : Int32) = iI 1 from rfl, iI_add]
        · rw [if_neg z, if_neg z, hF x hx]
      · rw [if_pos (show iI (fgI a) < 0 from by simp (disch := omega) only [iI_lit, iL_lit, iI_add, iI_sub, iI_mul, iI_neg, iL_add, iL_sub, iL_mul, iL_neg, iI_lt, iI_le, iI_eq, iL_lt, iL_le, iL_eqS, iI_c, iI_ok, iI_l, iL_i, iI_low, l_ushrI, l_shlI, l_shrI, i_shlI, i_shrI, i_ushrI, iI_div, iL_div, Int.toNat_natCast, Int.reduceToNat, iI_ofNat]; omega)]
        simp only [if_neg q]
        exact ⟨fl, hF, rfl⟩
-- UT
set_option maxRecDepth 10000 in
abbrev CNV (b : Int) : Prop := (b = 100 ∨ b = 111 ∨ b = 120 ∨ b = 88 ∨ b = 101 ∨ b = 69 ∨ b = 102 ∨ b = 103 ∨ b = 71 ∨ b = 97 ∨ b = 65 ∨ b = 99 ∨ b = 67 ∨ b = 115 ∨ b = 83 ∨ b = 98 ∨ b = 66) ∨ b = 37 ∨ b = 110
set_option maxRecDepth 10000 in
theorem has31_all : ∀ b : Fin 256, f_Fm_has 31 (iI (b.val : Int)) = some (iI (if CNV b.val then 1 else 0)) := by decide +kernel
set_option maxRecDepth 10000 in
theorem ix49_all : ∀ b : Fin 128, (∃ x, f_JStr_indexOf 49 (iI (b.val : Int)) = some x ∧ (0 ≤ x ↔ CNV b.val)) := by
  have h : ∀ b : Fin 128, ((f_JStr_indexOf 49 (iI (b.val : Int))).map (fun x => decide (0 ≤ x))) = some (decide (CNV b.val)) := by decide +kernel
  intro b
  have := h b
  cases e : f_JStr_indexOf 49 (iI (b.val : Int)) with
  | none => rw [e] at this; cases this
  | some x =>
    rw [e] at this
    refine ⟨x, rfl, ?_⟩
    simp only [Option.map_some, Option.some.injEq] at this
    exact ⟨fun y => of_decide_eq_true (this ▸ decide_eq_true y), fun y => of_decide_eq_true (this.symm ▸ decide_eq_true y)⟩
set_option maxRecDepth 10000 in
theorem CNV_b {b : Int} (h : CNV b) : 0 < b ∧ b < 128 := by unfold CNV at h; omega
set_option maxRecDepth 10000 in
theorem has31 {b : Int} (h0 : -1 ≤ b) (h1 : b < 256) : f_Fm_has 31 (iI b) = some (iI (if CNV b then 1 else 0)) := by
  by_cases q : 0 ≤ b
  · obtain ⟨c, rfl⟩ : ∃ c : Nat, b = (c : Int) := ⟨b.toNat, by omega⟩
    exact has31_all ⟨c, by omega⟩
  · have : b = -1 := by omega
    subst this
    rfl
set_option maxRecDepth 10000 in
def qPr (X : List Int32) (p : Nat) : Int := if hq X p = 46 then (if (dN X (p + 1)).2 = p + 1 then -5 else (dN X (p + 1)).1) else -1
set_option maxRecDepth 10000 in
def qP3 (X : List Int32) (p : Nat) : Nat := if hq X p = 46 then (dN X (p + 1)).2 else p
set_option maxRecDepth 10000 in
theorem qP3_b {X : List Int32} {p : Nat} (h : p ≤ X.length) : p ≤ qP3 X p ∧ qP3 X p ≤ X.length := by
  unfold qP3
  split
  · rename_i q
    have := hq_in (X := X) (i := p) (by omega)
    have := dN_b X (p + 1)
    omega
  · omega
set_option maxRecDepth 10000 in
theorem qPr_b (X : List Int32) (p : Nat) : -5 ≤ qPr X p ∧ qPr X p ≤ 10000 := by
  have := dN_b X (p + 1)
  unfold qPr
  split
  · split <;> omega
  · omega
set_option maxRecDepth 10000 in
abbrev T10 := Int32 × Int32 × Int32 × (Nat → Int32) × (Nat → Int32) × (Nat → Int32) × (Nat → Int32) × (Nat → Int32) × (Nat → Int32) × (Nat → Int32)
set_option maxRecDepth 10000 in
theorem e1N (i : Nat) : iI (i : Int) + (1 : Int32) = iI ((i + 1 : Nat) : Int) := by rw [show (1 : Int32) = iI 1 from rfl, iI_add]; rfl
set_option maxRecDepth 10000 in
theorem rd134 {n : Nat} (hn : n < 900000) {len over : Int32} {c : Nat → Int32} {X : List Int32} (h : BY n len over c X) (hX : X.length ≤ n) {j : Nat} (hj : j < 500) {p : Nat} (hp : p ≤ X.length) {wd ix pr : Int} (w0 : -1 ≤ wd) (w1 : wd ≤ 10000) (x0 : -1 ≤ ix) (x1 : ix ≤ 10000) (p0 : -1 ≤ pr) (p1 : pr ≤ 10000) (wc ic pc cc fl pl ac : Nat → Int32) :
    ((ix ≤ 9999 ∧ wd ≤ 9999 ∧ pr ≤ 9999 ∧ CNV (hq X p)) → f_Fm_readDirective_134 (iI j) n (iI j) (iI p) len c (upd wc j (iI wd)) (upd ic j (iI ix)) (upd pc j (iI pr)) cc fl pl ac = some (1, iI ((j + 1 : Nat) : Int), iI ((p + 1 : Nat) : Int), upd wc j (iI wd), upd ic j (iI ix), upd pc j (iI pr), upd cc j (iI (hq X p)), fl, pl, upd ac j (iI ((p + 1 : Nat) : Int)))) ∧
    (¬ (ix ≤ 9999 ∧ wd ≤ 9999 ∧ pr ≤ 9999 ∧ CNV (hq X p)) → ∃ r : T10, f_Fm_readDirective_134 (iI j) n (iI j) (iI p) len c (upd wc j (iI wd)) (upd ic j (iI ix)) (upd pc j (iI pr)) cc fl pl ac = some r ∧ r.1 = 0) := by
  have hok : gx_ok (iI (j : Int)) 500 = true := by simp (disch := omega) only [iI_lit, iL_lit, iI_add, iI_sub, iI_mul, iI_neg, iL_add, iL_sub, iL_mul, iL_neg, iI_lt, iI_le, iI_eq, iL_lt, iL_le, iL_eqS, iI_c, iI_ok, iI_l, iL_i, iI_low, l_ushrI, l_shlI, l_shrI, i_shlI, i_shrI, i_ushrI, iI_div, iL_div, Int.toNat_natCast, Int.reduceToNat, iI_ofNat]; omega
  have hb := hq_b X p
  unfold f_Fm_readDirective_134 f_Fm_readDirective_235
  rw [bat_q (by omega) h hX (by omega), Option.bind_some]
  simp only [if_pos hok]
  rw [iI_c (by omega) (by omega), Int.toNat_natCast, upd_s, upd_s, upd_s, upd_s, e1N, e1N]
  by_cases q1 : 9999 < ix
  · rw [if_pos (show (9999 : Int32) < iI ix from by simp (disch := omega) only [iI_lit, iL_lit, iI_add, iI_sub, iI_mul, iI_neg, iL_add, iL_sub, iL_mul, iL_neg, iI_lt, iI_le, iI_eq, iL_lt, iL_le, iL_eqS, iI_c, iI_ok, iI_l, iL_i, iI_low, l_ushrI, l_shlI, l_shrI, i_shlI, i_shrI, i_ushrI, iI_div, iL_div, Int.toNat_natCast, Int.reduceToNat, iI_ofNat]; omega)]
    exact ⟨fun y => by omega, fun _ => ⟨_, rfl, rfl⟩⟩
  rw [if_neg (show ¬ (9999 : Int32) < iI ix from by simp (disch := omega) only [iI_lit, iL_lit, iI_add, iI_sub, iI_mul, iI_neg, iL_add, iL_sub, iL_mul, iL_neg, iI_lt, iI_le, iI_eq, iL_lt, iL_le, iL_eqS, iI_c, iI_ok, iI_l, iL_i, iI_low, l_ushrI, l_shlI, l_shrI, i_shlI, i_shrI, i_ushrI, iI_div, iL_div, Int.toNat_natCast, Int.reduceToNat, iI_ofNat]; omega)]
  by_cases q2 : 9999 < wd
  · rw [if_pos (show (9999 : Int32) < iI wd from by simp (disch := omega) only [iI_lit, iL_lit, iI_add, iI_sub, iI_mul, iI_neg, iL_add, iL_sub, iL_mul, iL_neg, iI_lt, iI_le, iI_eq, iL_lt, iL_le, iL_eqS, iI_c, iI_ok, iI_l, iL_i, iI_low, l_ushrI, l_shlI, l_shrI, i_shlI, i_shrI, i_ushrI, iI_div, iL_div, Int.toNat_natCast, Int.reduceToNat, iI_ofNat]; omega)]
    exact ⟨fun y => by omega, fun _ => ⟨_, rfl, rfl⟩⟩
  rw [if_neg (show ¬ (9999 : Int32) < iI wd from by simp (disch := omega) only [iI_lit, iL_lit, iI_add, iI_sub, iI_mul, iI_neg, iL_add, iL_sub, iL_mul, iL_neg, iI_lt, iI_le, iI_eq, iL_lt, iL_le, iL_eqS, iI_c, iI_ok, iI_l, iL_i, iI_low, l_ushrI, l_shlI, l_shrI, i_shlI, i_shrI, i_ushrI, iI_div, iL_div, Int.toNat_natCast, Int.reduceToNat, iI_ofNat]; omega)]
  by_cases q3 : 9999 < pr
  · rw [if_pos (show (9999 : Int32) < iI pr from by simp (disch := omega) only [iI_lit, iL_lit, iI_add, iI_sub, iI_mul, iI_neg, iL_add, iL_sub, iL_mul, iL_neg, iI_lt, iI_le, iI_eq, iL_lt, iL_le, iL_eqS, iI_c, iI_ok, iI_l, iL_i, iI_low, l_ushrI, l_shlI, l_shrI, i_shlI, i_shrI, i_ushrI, iI_div, iL_div, Int.toNat_natCast, Int.reduceToNat, iI_ofNat]; omega)]
    exact ⟨fun y => by omega, fun _ => ⟨_, rfl, rfl⟩⟩
  rw [if_neg (show ¬ (9999 : Int32) < iI pr from by simp (disch := omega) only [iI_lit, iL_lit, iI_add, iI_sub, iI_mul, iI_neg, iL_add, iL_sub, iL_mul, iL_neg, iI_lt, iI_le, iI_eq, iL_lt, iL_le, iL_eqS, iI_c, iI_ok, iI_l, iL_i, iI_low, l_ushrI, l_shlI, l_shrI, i_shlI, i_shrI, i_ushrI, iI_div, iL_div, Int.toNat_natCast, Int.reduceToNat, iI_ofNat]; omega), has31 hb.1 hb.2, Option.bind_some]
  by_cases q4 : CNV (hq X p)
  · rw [if_pos q4, if_neg (show ¬ iI 1 = 0 from by decide)]
    exact ⟨fun _ => rfl, fun y => absurd ⟨by omega, by omega, by omega, q4⟩ y⟩
  · rw [if_neg q4, if_pos (show iI 0 = 0 from rfl)]
    exact ⟨fun y => absurd y.2.2.2 q4, fun _ => ⟨_, rfl, rfl⟩⟩
set_option maxRecDepth 10000 in
theorem rd79 {n : Nat} (hn : n < 900000) {len over : Int32} {c : Nat → Int32} {X : List Int32} (h : BY n len over c X) (hX : X.length ≤ n) {j : Nat} (hj : j < 500) {p : Nat} (hp : p ≤ X.length) {wd ix : Int} (w0 : -1 ≤ wd) (w1 : wd ≤ 10000) (x0 : -1 ≤ ix) (x1 : ix ≤ 10000) (wc ic pc cc fl pl ac : Nat → Int32) :
    ((ix ≤ 9999 ∧ wd ≤ 9999 ∧ -1 ≤ qPr X p ∧ qPr X p ≤ 9999 ∧ CNV (hq X (qP3 X p))) → f_Fm_readDirective_79 (iI j) n (iI j) (iI p) len c (upd wc j (iI wd)) (upd ic j (iI ix)) (upd pc j (-1)) cc fl pl ac = some (1, iI ((j + 1 : Nat) : Int), iI ((qP3 X p + 1 : Nat) : Int), upd wc j (iI wd), upd ic j (iI ix), upd pc j (iI (qPr X p)), upd cc j (iI (hq X (qP3 X p))), fl, pl, upd ac j (iI ((qP3 X p + 1 : Nat) : Int)))) ∧
    (¬ (ix ≤ 9999 ∧ wd ≤ 9999 ∧ -1 ≤ qPr X p ∧ qPr X p ≤ 9999 ∧ CNV (hq X (qP3 X p))) → ∃ r : T10, f_Fm_readDirective_79 (iI j) n (iI j) (iI p) len c (upd wc j (iI wd)) (upd ic j (iI ix)) (upd pc j (-1)) cc fl pl ac = some r ∧ r.1 = 0) := by
  have hok : gx_ok (iI (j : Int)) 500 = true := by simp (disch := omega) only [iI_lit, iL_lit, iI_add, iI_sub, iI_mul, iI_neg, iL_add, iL_sub, iL_mul, iL_neg, iI_lt, iI_le, iI_eq, iL_lt, iL_le, iL_eqS, iI_c, iI_ok, iI_l, iL_i, iI_low, l_ushrI, l_shlI, l_shrI, i_shlI, i_shrI, i_ushrI, iI_div, iL_div, Int.toNat_natCast, Int.reduceToNat, iI_ofNat]; omega
  have hb := hq_b X p
  have h46 : (iI (hq X p) = (46 : Int32)) = (hq X p = 46) := by rw [show (46 : Int32) = iI 46 from rfl, iI_eq (by omega) (by omega) (by omega) (by omega)]
  unfold f_Fm_readDirective_79
  rw [bat_q (by omega) h hX (by omega), Option.bind_some]
  simp only [h46]
  by_cases q : hq X p = 46
  · have hin := hq_in (X := X) (i := p) (by omega)
    have hb2 := hq_b X (p + 1)
    have hd := dN_b X (p + 1)
    have eP : qPr X p = if (dN X (p + 1)).2 = p + 1 then -5 else (dN X (p + 1)).1 := if_pos q
    have e3 : qP3 X p = (dN X (p + 1)).2 := if_pos q
    rw [if_pos q, e1N, bat_q (by omega) h hX (by omega), Option.bind_some, ntdig_spec hb2.1 hb2.2, Option.bind_some]
    by_cases q2 : 48 ≤ hq X (p + 1) ∧ hq X (p + 1) ≤ 57
    · have h1 := dN_1 q2
      rw [if_neg (show ¬ (dN X (p + 1)).2 = p + 1 by omega)] at eP
      rw [if_pos q2, if_neg (show ¬ iI 1 = 0 from by decide), readNumber_spec (by omega) h hX (by omega), Option.bind_some, if_pos hok, iI_c (by omega) (by omega), Int.toNat_natCast, upd_upd]
      have := rd134 hn h hX hj (p := qP3 X p) (by omega) w0 w1 x0 x1 (pr := qPr X p) (by omega) (by omega) wc ic pc cc fl pl ac
      rw [← e3, ← eP]
      exact ⟨fun y => this.1 ⟨y.1, y.2.1, y.2.2.2.1, y.2.2.2.2⟩, fun y => this.2 (fun z => y ⟨z.1, z.2.1, by omega, z.2.2.1, z.2.2.2⟩)⟩
    · rw [dN_0 q2] at eP
      rw [if_pos rfl] at eP
      rw [if_neg q2, if_pos (show iI 0 = 0 from rfl)]
      exact ⟨fun y => by omega, fun _ => ⟨_, rfl, rfl⟩⟩
  · have eP : qPr X p = -1 := if_neg q
    have e3 : qP3 X p = p := if_neg q
    rw [if_neg q]
    have := rd134 hn h hX hj (p := qP3 X p) (by omega) w0 w1 x0 x1 (pr := qPr X p) (by omega) (by omega) wc ic pc cc fl pl ac
    rw [eP, e3] at this ⊢
    exact ⟨fun y => this.1 ⟨y.1, y.2.1, y.2.2.2.1, y.2.2.2.2⟩, fun y => this.2 (fun z => y ⟨z.1, z.2.1, by omega, z.2.2.1, z.2.2.2⟩)⟩
set_option maxRecDepth 10000 in
def ixP (X : List Int32) (p : Nat) : Int × Nat := if hq X p = 60 then (-1, p + 1) else if 49 ≤ hq X p ∧ hq X p ≤ 57 then (if hq X (dN X p).2 = 36 then ((dN X p).1, (dN X p).2 + 1) else (0, p)) else (0, p)
set_option maxRecDepth 10000 in
def dCt (X : List Int32) (p : Nat) : Nat → Int := (fN X (ixP X p).2).1
set_option maxRecDepth 10000 in
def dPf (X : List Int32) (p : Nat) : Nat := (fN X (ixP X p).2).2
set_option maxRecDepth 10000 in
def dWd (X : List Int32) (p : Nat) : Int := if (dN X (dPf X p)).2 = dPf X p then -1 else (dN X (dPf X p)).1
set_option maxRecDepth 10000 in
def dP2 (X : List Int32) (p : Nat) : Nat := (dN X (dPf X p)).2
set_option maxRecDepth 10000 in
def dPr (X : List Int32) (p : Nat) : Int := qPr X (dP2 X p)
set_option maxRecDepth 10000 in
def dP3 (X : List Int32) (p : Nat) : Nat := qP3 X (dP2 X p)
set_option maxRecDepth 10000 in
def dCv (X : List Int32) (p : Nat) : Int := hq X (dP3 X p)
set_option maxRecDepth 10000 in
abbrev DOK (X : List Int32) (p : Nat) : Prop := (ixP X p).1 ≤ 9999 ∧ dWd X p ≤ 9999 ∧ -1 ≤ dPr X p ∧ dPr X p ≤ 9999 ∧ CNV (dCv X p)
set_option maxRecDepth 10000 in
theorem ixP_b {X : List Int32} {p : Nat} (h : p ≤ X.length) : -1 ≤ (ixP X p).1 ∧ (ixP X p).1 ≤ 10000 ∧ p ≤ (ixP X p).2 ∧ (ixP X p).2 ≤ X.length := by
  have := dN_b X p
  unfold ixP
  split
  · rename_i q; have := hq_in (X := X) (i := p) (by omega); simp only; omega
  · split
    · split
      · rename_i q; have := hq_in (X := X) (i := (dN X p).2) (by omega); simp only; omega
      · simp only; omega
    · simp only; omega
set_option maxRecDepth 10000 in
theorem dWd_b (X : List Int32) (p : Nat) : -1 ≤ dWd X p ∧ dWd X p ≤ 10000 := by
  have := dN_b X (dPf X p)
  unfold dWd; split <;> omega
set_option maxRecDepth 10000 in
theorem dP_b {X : List Int32} {p : Nat} (h : p ≤ X.length) : p ≤ dPf X p ∧ dPf X p ≤ dP2 X p ∧ dP2 X p ≤ dP3 X p ∧ dP3 X p ≤ X.length := by
  have h1 := ixP_b h
  have h2 := fN_b (X := X) (i := (ixP X p).2) (by omega)
  have h3 := dN_b X (dPf X p)
  have h4 := qP3_b (X := X) (p := dP2 X p) (by unfold dP2; unfold dPf at h3 ⊢; omega)
  unfold dP3 dP2 dPf at *
  omega
set_option maxRecDepth 10000 in
theorem DOK_in {X : List Int32} {p : Nat} (h : DOK X p) : dP3 X p < X.length := by
  have := CNV_b h.2.2.2.2
  exact hq_in (by unfold dCv at this; omega)
set_option maxRecDepth 10000 in
theorem rdir_spec {n : Nat} (hn : n < 900000) {len over : Int32} {c : Nat → Int32} {X : List Int32} (h : BY n len over c X) (hX : X.length ≤ n) {j : Nat} (hj : j < 500) {s : Nat} (hs : s < X.length) (at_ : Int32) (wc ic pc cc fl pl ac : Nat → Int32) :
    (DOK X (s + 1) → ∃ m, FLX m (dCt X (s + 1)) ∧ f_Fm_readDirective (iI s) n (iI j) at_ len c wc ic pc cc fl pl ac = some (1, iI ((j + 1 : Nat) : Int), iI ((dP3 X (s + 1) + 1 : Nat) : Int), upd wc j (iI (dWd X (s + 1))), upd ic j (iI (ixP X (s + 1)).1), upd pc j (iI (dPr X (s + 1))), upd cc j (iI (dCv X (s + 1))), upd fl j (iI m), upd pl j (iI s), upd ac j (iI ((dP3 X (s + 1) + 1 : Nat) : Int)))) ∧
    (¬ DOK X (s + 1) → ∃ r : T10, f_Fm_readDirective (iI s) n (iI j) at_ len c wc ic pc cc fl pl ac = some r ∧ r.1 = 0) := by
  have hok : gx_ok (iI (j : Int)) 500 = true := by simp (disch := omega) only [iI_lit, iL_lit, iI_add, iI_sub, iI_mul, iI_neg, iL_add, iL_sub, iL_mul, iL_neg, iI_lt, iI_le, iI_eq, iL_lt, iL_le, iL_eqS, iI_c, iI_ok, iI_l, iL_i, iI_low, l_ushrI, l_shlI, l_shrI, i_shlI, i_shrI, i_ushrI, iI_div, iL_div, Int.toNat_natCast, Int.reduceToNat, iI_ofNat]; omega
  obtain ⟨i0, i1, i2, i3⟩ := ixP_b (X := X) (p := s + 1) (by omega)
  obtain ⟨d1, d2, d3, d4⟩ := dP_b (X := X) (p := s + 1) (by omega)
  obtain ⟨w0, w1⟩ := dWd_b X (s + 1)
  have hb := hq_b X (s + 1)
  have fin := fun (m : Nat) => rd79 hn h hX hj (p := dP2 X (s + 1)) (by omega) w0 w1 i0 i1 wc ic pc cc (upd fl j (iI m)) (upd pl j (iI s)) ac
  -- through the flags
  have thr : (ixP X (s + 1)).1 = (ixP X (s + 1)).1 → ∃ m, FLX m (dCt X (s + 1)) ∧ ((f_Fm_readFlagsAndWidth (iI j) n (iI ((ixP X (s + 1)).2 : Nat)) len c (upd fl j 0) (upd wc j (-1))).bind fun u76 => f_Fm_readDirective_79 (iI j) n (iI j) u76.1 len c u76.2.2 (upd ic j (iI (ixP X (s + 1)).1)) (upd pc j (-1)) cc u76.2.1 (upd pl j (iI s)) ac) = f_Fm_readDirective_79 (iI j) n (iI j) (iI (dP2 X (s + 1) : Nat)) len c (upd wc j (iI (dWd X (s + 1)))) (upd ic j (iI (ixP X (s + 1)).1)) (upd pc j (-1)) cc (upd fl j (iI m)) (upd pl j (iI s)) ac := by
    intro _
    obtain ⟨m, hF, e⟩ := rfw_spec hn h hX hj fl (upd wc j (-1)) i3
    refine ⟨m, hF, ?_⟩
    have e' : f_Fm_readFlagsAndWidth (iI j) n (iI ((ixP X (s + 1)).2 : Nat)) len c (upd fl j 0) (upd wc j (-1)) = _ := e
    rw [e', Option.bind_some]
    have ew : (if (dN X (fN X (ixP X (s + 1)).2).2).2 = (fN X (ixP X (s + 1)).2).2 then upd wc j (-1) else upd (upd wc j (-1)) j (iI (dN X (fN X (ixP X (s + 1)).2).2).1)) = upd wc j (iI (dWd X (s + 1))) := by
      unfold dWd dPf
      split
      · rfl
      · rw [upd_upd]
    dsimp only
    rw [ew]; rfl
  have conc : ∀ (m : Nat), FLX m (dCt X (s + 1)) → ∀ y, y = f_Fm_readDirective_79 (iI j) n (iI j) (iI (dP2 X (s + 1) : Nat)) len c (upd wc j (iI (dWd X (s + 1)))) (upd ic j (iI (ixP X (s + 1)).1)) (upd pc j (-1)) cc (upd fl j (iI m)) (upd pl j (iI s)) ac → (DOK X (s + 1) → ∃ m, FLX m (dCt X (s + 1)) ∧ y = some (1, iI ((j + 1 : Nat) : Int), iI ((dP3 X (s + 1) + 1 : Nat) : Int), upd wc j (iI (dWd X (s + 1))), upd ic j (iI (ixP X (s + 1)).1), upd pc j (iI (dPr X (s + 1))), upd cc j (iI (dCv X (s + 1))), upd fl j (iI m), upd pl j (iI s), upd ac j (iI ((dP3 X (s + 1) + 1 : Nat) : Int)))) ∧ (¬ DOK X (s + 1) → ∃ r : T10, y = some r ∧ r.1 = 0) := by
    intro m hF y hy
    rw [hy]
    exact ⟨fun z => ⟨m, hF, (fin m).1 z⟩, fun z => (fin m).2 z⟩
  unfold f_Fm_readDirective
  rw [if_pos (show iI (j : Int) < 500 from by simp (disch := omega) only [iI_lit, iL_lit, iI_add, iI_sub, iI_mul, iI_neg, iL_add, iL_sub, iL_mul, iL_neg, iI_lt, iI_le, iI_eq, iL_lt, iL_le, iL_eqS, iI_c, iI_ok, iI_l, iL_i, iI_low, l_ushrI, l_shlI, l_shrI, i_shlI, i_shrI, i_ushrI, iI_div, iL_div, Int.toNat_natCast, Int.reduceToNat, iI_ofNat]; omega)]
  simp only [if_pos hok]
  rw [iI_c (by omega) (by omega), Int.toNat_natCast, e1N]
  unfold f_Fm_readIndexOrWidth
  rw [bat_q (by omega) h hX (by omega), Option.bind_some]
  have h60 : (iI (hq X (s + 1)) = (60 : Int32)) = (hq X (s + 1) = 60) := by rw [show (60 : Int32) = iI 60 from rfl, iI_eq (by omega) (by omega) (by omega) (by omega)]
  have h48 : (iI (hq X (s + 1)) = (48 : Int32)) = (hq X (s + 1) = 48) := by rw [show (48 : Int32) = iI 48 from rfl, iI_eq (by omega) (by omega) (by omega) (by omega)]
  simp only [h60, h48, if_pos hok]
  rw [iI_c (by omega) (by omega), Int.toNat_natCast]
  have plain : ixP X (s + 1) = (0, s + 1) → (DOK X (s + 1) → ∃ m, FLX m (dCt X (s + 1)) ∧ ((some (iI ((s + 1 : Nat) : Int), upd wc j (-1), upd ic j 0) : Option (Int32 × (Nat → Int32) × (Nat → Int32))).bind fun u61 => if u61.2.1 j = -1 then ((f_Fm_readFlagsAndWidth (iI j) n u61.1 len c (upd fl j 0) u61.2.1).bind fun u76 => f_Fm_readDirective_79 (iI j) n (iI j) u76.1 len c u76.2.2 u61.2.2 (upd pc j (-1)) cc u76.2.1 (upd pl j (iI s)) ac) else (f_Fm_readDirective_79 (iI j) n (iI j) u61.1 len c u61.2.1 u61.2.2 (upd pc j (-1)) cc (upd fl j 0) (upd pl j (iI s)) ac)) = some (1, iI ((j + 1 : Nat) : Int), iI ((dP3 X (s + 1) + 1 : Nat) : Int), upd wc j (iI (dWd X (s + 1))), upd ic j (iI (ixP X (s + 1)).1), upd pc j (iI (dPr X (s + 1))), upd cc j (iI (dCv X (s + 1))), upd fl j (iI m), upd pl j (iI s), upd ac j (iI ((dP3 X (s + 1) + 1 : Nat) : Int)))) ∧ (¬ DOK X (s + 1) → ∃ r : T10, ((some (iI ((s + 1 : Nat) : Int), upd wc j (-1), upd ic j 0) : Option (Int32 × (Nat → Int32) × (Nat → Int32))).bind fun u61 => if u61.2.1 j = -1 then ((f_Fm_readFlagsAndWidth (iI j) n u61.1 len c (upd fl j 0) u61.2.1).bind fun u76 => f_Fm_readDirective_79 (iI j) n (iI j) u76.1 len c u76.2.2 u61.2.2 (upd pc j (-1)) cc u76.2.1 (upd pl j (iI s)) ac) else (f_Fm_readDirective_79 (iI j) n (iI j) u61.1 len c u61.2.1 u61.2.2 (upd pc j (-1)) cc (upd fl j 0) (upd pl j (iI s)) ac)) = some r ∧ r.1 = 0) := by
    intro he
    obtain ⟨m, hF, e⟩ := thr rfl
    refine conc m hF _ ?_
    rw [← e, Option.bind_some]
    dsimp only
    rw [if_pos (upd_s _ _ _), he]; rfl
  by_cases q1 : hq X (s + 1) = 60
  · have he : ixP X (s + 1) = (-1, s + 1 + 1) := if_pos q1
    rw [if_pos q1, e1N]
    obtain ⟨m, hF, e⟩ := thr rfl
    refine conc m hF _ ?_
    rw [← e, Option.bind_some]
    dsimp only
    rw [if_pos (upd_s _ _ _), he, upd_upd]; rfl
  rw [if_neg q1, ntdig_spec hb.1 hb.2, Option.bind_some]
  by_cases q2 : 48 ≤ hq X (s + 1) ∧ hq X (s + 1) ≤ 57
  · rw [if_pos q2, if_neg (show ¬ iI 1 = 0 from by decide)]
    by_cases q3 : hq X (s + 1) = 48
    · rw [if_pos q3]
      exact plain (by unfold ixP; rw [if_neg q1, if_neg (by omega)])
    rw [if_neg q3, readNumber_spec (by omega) h hX (by omega), Option.bind_some]
    dsimp only
    have hd := dN_b X (s + 1)
    have hd1 := dN_1 q2
    have hb2 := hq_b X (dN X (s + 1)).2
    have h36 : (iI (hq X (dN X (s + 1)).2) = (36 : Int32)) = (hq X (dN X (s + 1)).2 = 36) := by rw [show (36 : Int32) = iI 36 from rfl, iI_eq (by omega) (by omega) (by omega) (by omega)]
    rw [bat_q (by omega) h hX (by omega), Option.bind_some]
    simp only [h36]
    have q23 : 49 ≤ hq X (s + 1) ∧ hq X (s + 1) ≤ 57 := by omega
    by_cases q4 : hq X (dN X (s + 1)).2 = 36
    · have he : ixP X (s + 1) = ((dN X (s + 1)).1, (dN X (s + 1)).2 + 1) := by unfold ixP; rw [if_neg q1, if_pos q23, if_pos q4]
      rw [if_pos q4, e1N]
      obtain ⟨m, hF, e⟩ := thr rfl
      refine conc m hF _ ?_
      rw [← e, Option.bind_some]
      dsimp only
      rw [if_pos (upd_s _ _ _), he, upd_upd]
    · have he : ixP X (s + 1) = (0, s + 1) := by unfold ixP; rw [if_neg q1, if_pos q23, if_neg q4]
      rw [if_neg q4]
      have hfg : ¬ 0 ≤ fgI (hq X (s + 1)) := by
        unfold fgI
        rw [if_neg (by omega), if_neg (by omega), if_neg (by omega), if_neg (by omega), if_neg (by omega), if_neg (by omega), if_neg (by omega)]
        omega
      have hf0 := fN_0 hfg
      have hC : dCt X (s + 1) = fun _ => 0 := by unfold dCt; rw [he]; dsimp only; rw [hf0]
      have hPf : dPf X (s + 1) = s + 1 := by unfold dPf; rw [he]; dsimp only; rw [hf0]
      have hP2 : dP2 X (s + 1) = (dN X (s + 1)).2 := by unfold dP2; rw [hPf]
      have hW : dWd X (s + 1) = (dN X (s + 1)).1 := by unfold dWd; rw [hPf, if_neg (by omega)]
      refine conc 0 (by rw [hC]; exact FLX_0) _ ?_
      rw [Option.bind_some]
      dsimp only
      rw [upd_upd, if_neg (by rw [upd_s]; rw [show (-1 : Int32) = iI (-1) from rfl, iI_eq (by omega) (by omega) (by omega) (by omega)]; omega), he, hP2, hW]; rfl
  · rw [if_neg q2, if_pos (show iI 0 = 0 from rfl)]
    exact plain (by unfold ixP; rw [if_neg q1, if_neg (by omega)])
