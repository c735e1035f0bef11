-- UX
set_option maxRecDepth 10000 in
def mW (o : Nat) : Nat := if o = 52 then 125 else if o = 54 then 19 else if o = 56 then 95 else if o = 48 then 127 else if o = 60 then 31 else 1
set_option maxRecDepth 10000 in
theorem may_all : ∀ i : Fin 7, ∀ o ∈ [52, 54, 56, 48, 60, 61], ((f_JStr_charAt 48 (iI (i.val : Int))).bind fun u => (f_JStr_indexOf o u).map fun y => decide (0 ≤ y)) = some ((mW o).testBit i.val) := by decide +kernel
set_option maxRecDepth 10000 in
theorem may_get {o : Nat} (ho : o ∈ [52, 54, 56, 48, 60, 61]) {i : Nat} (hi : i < 7) : ∃ u y, f_JStr_charAt 48 (iI (i : Int)) = some u ∧ f_JStr_indexOf o u = some y ∧ (0 ≤ y ↔ (mW o).testBit i = true) := by
  have := may_all ⟨i, hi⟩ o ho
  simp only at this
  cases e : f_JStr_charAt 48 (iI (i : Int)) with
  | none => rw [e] at this; cases this
  | some u =>
    rw [e, Option.bind_some] at this
    cases e2 : f_JStr_indexOf o u with
    | none => rw [e2] at this; cases this
    | some y =>
      rw [e2] at this
      simp only [Option.map_some, Option.some.injEq] at this
      refine ⟨u, y, rfl, e2, ?_⟩
      rw [← this]
      exact ⟨fun z => decide_eq_true z, fun z => of_decide_eq_true z⟩
set_option maxRecDepth 10000 in
theorem mb270 {o : Nat} (ho : o ∈ [52, 54, 56, 48, 60, 61]) {fl : Nat → Int32} {ct : Nat → Int} (hfl : ∀ x, x < 7 → fl x = iI (ct x)) (hct : ∀ x, x < 7 → 0 ≤ ct x ∧ ct x ≤ 100000) (w pr cv gv : Int32) : ∀ (d k v : Nat), v + d = 7 → d < k → ((∃ i, v ≤ i ∧ i < 7 ∧ 1 ≤ ct i ∧ (mW o).testBit i = false) → f_Md_barred_270 k o (iI v) fl w pr cv gv = some 1) ∧ (¬ (∃ i, v ≤ i ∧ i < 7 ∧ 1 ≤ ct i ∧ (mW o).testBit i = false) → f_Md_barred_270 k o (iI v) fl w pr cv gv = some 0) := by
  have ho74 : o < 74 := by simp at ho; omega
  intro d
  induction d with
  | zero =>
    intro k v hd hk
    obtain ⟨k, rfl⟩ : ∃ x, k = x + 1 := ⟨k - 1, by omega⟩
    unfold f_Md_barred_270
    rw [if_pos (show (7 : Int32) ≤ iI (v : Int) from by simp (disch := omega) only [iI_lit, iL_lit, iI_add, iI_sub, iI_mul, iI_neg, iL_add, iL_sub, iL_mul, iL_neg, iI_lt, iI_le, iI_eq, iL_lt, iL_le, iL_eqS, iI_c, iI_ok, iI_l, iL_i, iI_low, l_ushrI, l_shlI, l_shrI, i_shlI, i_shrI, i_ushrI, iI_div, iL_div, Int.toNat_natCast, Int.reduceToNat, iI_ofNat]; omega)]
    exact ⟨fun ⟨i, h1, h2, _⟩ => by omega, fun _ => rfl⟩
  | succ d ih =>
    intro k v hd hk
    obtain ⟨k, rfl⟩ : ∃ x, k = x + 1 := ⟨k - 1, by omega⟩
    have hok : gx_ok (iI (v : Int)) 7 = true := by simp (disch := omega) only [iI_lit, iL_lit, iI_add, iI_sub, iI_mul, iI_neg, iL_add, iL_sub, iL_mul, iL_neg, iI_lt, iI_le, iI_eq, iL_lt, iL_le, iL_eqS, iI_c, iI_ok, iI_l, iL_i, iI_low, l_ushrI, l_shlI, l_shrI, i_shlI, i_shrI, i_ushrI, iI_div, iL_div, Int.toNat_natCast, Int.reduceToNat, iI_ofNat]; omega
    have hb := hct v (by omega)
    unfold f_Md_barred_270 f_Md_barred_301
    rw [if_neg (show ¬ (7 : Int32) ≤ iI (v : Int) from by simp (disch := omega) only [iI_lit, iL_lit, iI_add, iI_sub, iI_mul, iI_neg, iL_add, iL_sub, iL_mul, iL_neg, iI_lt, iI_le, iI_eq, iL_lt, iL_le, iL_eqS, iI_c, iI_ok, iI_l, iL_i, iI_low, l_ushrI, l_shlI, l_shrI, i_shlI, i_shrI, i_ushrI, iI_div, iL_div, Int.toNat_natCast, Int.reduceToNat, iI_ofNat]; omega), if_pos hok, iI_c (by omega) (by omega), Int.toNat_natCast, hfl v (by omega)]
    have ih' := ih k (v + 1) (by omega) (by omega)
    by_cases q : ct v ≤ 0
    · rw [if_pos (show iI (ct v) ≤ 0 from by simp (disch := omega) only [iI_lit, iL_lit, iI_add, iI_sub, iI_mul, iI_neg, iL_add, iL_sub, iL_mul, iL_neg, iI_lt, iI_le, iI_eq, iL_lt, iL_le, iL_eqS, iI_c, iI_ok, iI_l, iL_i, iI_low, l_ushrI, l_shlI, l_shrI, i_shlI, i_shrI, i_ushrI, iI_div, iL_div, Int.toNat_natCast, Int.reduceToNat, iI_ofNat]; omega), e1N]
      refine ⟨fun ⟨i, h1, h2, h3, h4⟩ => ih'.1 ⟨i, ?_, h2, h3, h4⟩, fun y => ih'.2 (fun ⟨i, h1, h2, h3, h4⟩ => y ⟨i, by omega, h2, h3, h4⟩)⟩
      by_cases z : i = v
      · subst z; omega
      · omega
    · rw [if_neg (show ¬ iI (ct v) ≤ 0 from by simp (disch := omega) only [iI_lit, iL_lit, iI_add, iI_sub, iI_mul, iI_neg, iL_add, iL_sub, iL_mul, iL_neg, iI_lt, iI_le, iI_eq, iL_lt, iL_le, iL_eqS, iI_c, iI_ok, iI_l, iL_i, iI_low, l_ushrI, l_shlI, l_shrI, i_shlI, i_shrI, i_ushrI, iI_div, iL_div, Int.toNat_natCast, Int.reduceToNat, iI_ofNat]; omega)]
      obtain ⟨u, y, e1, e2, hy⟩ := may_get ho (i := v) (by omega)
      rw [e1, Option.bind_some, if_pos ho74, e2, Option.bind_some]
      by_cases q2 : (mW o).testBit v = true
      · rw [if_pos (hy.mpr q2), e1N]
        refine ⟨fun ⟨i, h1, h2, h3, h4⟩ => ih'.1 ⟨i, ?_, h2, h3, h4⟩, fun y => ih'.2 (fun ⟨i, h1, h2, h3, h4⟩ => y ⟨i, by omega, h2, h3, h4⟩)⟩
        by_cases z : i = v
        · subst z; rw [q2] at h4; cases h4
        · omega
      · rw [if_neg (fun z => q2 (hy.mp z))]
        exact ⟨fun _ => rfl, fun z => absurd ⟨v, by omega, by omega, by omega, by simpa using q2⟩ z⟩
set_option maxRecDepth 10000 in
theorem mb4 {fl : Nat → Int32} {ct : Nat → Int} (hfl : ∀ x, x < 7 → fl x = iI (ct x)) (hct : ∀ x, x < 7 → 0 ≤ ct x ∧ ct x ≤ 100000) (w pr cv gv : Int32) : ∀ (d k v : Nat) (any : Prop) [Decidable any], v + d = 7 → d < k → ((∃ i, v ≤ i ∧ i < 7 ∧ 2 ≤ ct i) → f_Md_barred_4 k (if any then 1 else 0) (iI v) fl w pr cv gv = some 1) ∧ (¬ (∃ i, v ≤ i ∧ i < 7 ∧ 2 ≤ ct i) → ∃ (a : Int32) (k' : Nat), (a = 0 ↔ ¬ (any ∨ ∃ i, v ≤ i ∧ i < 7 ∧ 1 ≤ ct i)) ∧ f_Md_barred_4 k (if any then 1 else 0) (iI v) fl w pr cv gv = f_Md_barred_4 (k' + 1) a 7 fl w pr cv gv) := by
  intro d
  induction d with
  | zero =>
    intro k v any inst hd hk
    obtain ⟨k, rfl⟩ : ∃ x, k = x + 1 := ⟨k - 1, by omega⟩
    have : v = 7 := by omega
    subst this
    refine ⟨fun ⟨i, h1, h2, _⟩ => by omega, fun _ => ⟨if any then 1 else 0, k, ?_, rfl⟩⟩
    by_cases q : any
    · rw [if_pos q]; exact ⟨fun y => absurd y (by decide), fun y => absurd (Or.inl q) y⟩
    · rw [if_neg q]; exact ⟨fun _ => by rintro (y | ⟨i, h1, h2, _⟩); exact q y; omega, fun _ => rfl⟩
  | succ d ih =>
    intro k v any inst hd hk
    obtain ⟨k, rfl⟩ : ∃ x, k = x + 1 := ⟨k - 1, by omega⟩
    have hok : gx_ok (iI (v : Int)) 7 = true := by simp (disch := omega) only [iI_lit, iL_lit, iI_add, iI_sub, iI_mul, iI_neg, iL_add, iL_sub, iL_mul, iL_neg, iI_lt, iI_le, iI_eq, iL_lt, iL_le, iL_eqS, iI_c, iI_ok, iI_l, iL_i, iI_low, l_ushrI, l_shlI, l_shrI, i_shlI, i_shrI, i_ushrI, iI_div, iL_div, Int.toNat_natCast, Int.reduceToNat, iI_ofNat]; omega
    have hb := hct v (by omega)
    have step : f_Md_barred_4 (k + 1) (if any then 1 else 0) (iI v) fl w pr cv gv = if iI (ct v) ≤ 1 then (if iI (ct v) ≤ 0 then f_Md_barred_4 k (if any then 1 else 0) (iI ((v + 1 : Nat) : Int)) fl w pr cv gv else f_Md_barred_4 k 1 (iI ((v + 1 : Nat) : Int)) fl w pr cv gv) else some 1 := by
      conv => lhs; unfold f_Md_barred_4
      unfold f_Md_barred_33
      rw [if_neg (show ¬ (7 : Int32) ≤ iI (v : Int) from by simp (disch := omega) only [iI_lit, iL_lit, iI_add, iI_sub, iI_mul, iI_neg, iL_add, iL_sub, iL_mul, iL_neg, iI_lt, iI_le, iI_eq, iL_lt, iL_le, iL_eqS, iI_c, iI_ok, iI_l, iL_i, iI_low, l_ushrI, l_shlI, l_shrI, i_shlI, i_shrI, i_ushrI, iI_div, iL_div, Int.toNat_natCast, Int.reduceToNat, iI_ofNat]; omega)]
      simp only [if_pos hok]
      rw [iI_c (by omega) (by omega), Int.toNat_natCast, hfl v (by omega), e1N]
    rw [step]
    by_cases q1 : ct v ≤ 1
    · rw [if_pos (show iI (ct v) ≤ 1 from by simp (disch := omega) only [iI_lit, iL_lit, iI_add, iI_sub, iI_mul, iI_neg, iL_add, iL_sub, iL_mul, iL_neg, iI_lt, iI_le, iI_eq, iL_lt, iL_le, iL_eqS, iI_c, iI_ok, iI_l, iL_i, iI_low, l_ushrI, l_shlI, l_shrI, i_shlI, i_shrI, i_ushrI, iI_div, iL_div, Int.toNat_natCast, Int.reduceToNat, iI_ofNat]; omega)]
      by_cases q : ct v ≤ 0
      · rw [if_pos (show iI (ct v) ≤ 0 from by simp (disch := omega) only [iI_lit, iL_lit, iI_add, iI_sub, iI_mul, iI_neg, iL_add, iL_sub, iL_mul, iL_neg, iI_lt, iI_le, iI_eq, iL_lt, iL_le, iL_eqS, iI_c, iI_ok, iI_l, iL_i, iI_low, l_ushrI, l_shlI, l_shrI, i_shlI, i_shrI, i_ushrI, iI_div, iL_div, Int.toNat_natCast, Int.reduceToNat, iI_ofNat]; omega)]
        have ih' := ih k (v + 1) any (by omega) (by omega)
        refine ⟨fun ⟨i, h1, h2, h3⟩ => ih'.1 ⟨i, ?_, h2, h3⟩, fun y => ?_⟩
        · by_cases z : i = v
          · subst z; omega
          · omega
        · obtain ⟨a, k', ha, e⟩ := ih'.2 (fun ⟨i, h1, h2, h3⟩ => y ⟨i, by omega, h2, h3⟩)
          refine ⟨a, k', ?_, e⟩
          rw [ha]
          refine not_congr (or_congr Iff.rfl ⟨fun ⟨i, h1, h2, h3⟩ => ⟨i, by omega, h2, h3⟩, fun ⟨i, h1, h2, h3⟩ => ⟨i, ?_, h2, h3⟩⟩)
          by_cases z : i = v
          · subst z; omega
          · omega
      · rw [if_neg (show ¬ iI (ct v) ≤ 0 from by simp (disch := omega) only [iI_lit, iL_lit, iI_add, iI_sub, iI_mul, iI_neg, iL_add, iL_sub, iL_mul, iL_neg, iI_lt, iI_le, iI_eq, iL_lt, iL_le, iL_eqS, iI_c, iI_ok, iI_l, iL_i, iI_low, l_ushrI, l_shlI, l_shrI, i_shlI, i_shrI, i_ushrI, iI_div, iL_div, Int.toNat_natCast, Int.reduceToNat, iI_ofNat]; omega)]
        have ih' := ih k (v + 1) True (by omega) (by omega)
        rw [if_pos trivial] at ih'
        refine ⟨fun ⟨i, h1, h2, h3⟩ => ih'.1 ⟨i, ?_, h2, h3⟩, fun y => ?_⟩
        · by_cases z : i = v
          · subst z; omega
          · omega
        · obtain ⟨a, k', ha, e⟩ := ih'.2 (fun ⟨i, h1, h2, h3⟩ => y ⟨i, by omega, h2, h3⟩)
          refine ⟨a, k', ?_, e⟩
          rw [ha]
          exact not_congr ⟨fun _ => Or.inr ⟨v, by omega, by omega, by omega⟩, fun _ => Or.inl trivial⟩
    · rw [if_neg (show ¬ iI (ct v) ≤ 1 from by simp (disch := omega) only [iI_lit, iL_lit, iI_add, iI_sub, iI_mul, iI_neg, iL_add, iL_sub, iL_mul, iL_neg, iI_lt, iI_le, iI_eq, iL_lt, iL_le, iL_eqS, iI_c, iI_ok, iI_l, iL_i, iI_low, l_ushrI, l_shlI, l_shrI, i_shlI, i_shrI, i_ushrI, iI_div, iL_div, Int.toNat_natCast, Int.reduceToNat, iI_ofNat]; omega)]
      exact ⟨fun _ => rfl, fun y => absurd ⟨v, by omega, by omega, by omega⟩ y⟩
set_option maxRecDepth 10000 in
theorem inW_bar : ∀ c : Fin 128, CNV c.val → ((inW 51 c.val ↔ c.val = 100) ∧ (inW 53 c.val ↔ (c.val = 111 ∨ c.val = 120 ∨ c.val = 88)) ∧ (inW 55 c.val ↔ (c.val = 101 ∨ c.val = 69)) ∧ (inW 57 c.val ↔ c.val = 102) ∧ (inW 58 c.val ↔ (c.val = 103 ∨ c.val = 71)) ∧ (inW 59 c.val ↔ (c.val = 97 ∨ c.val = 65))) := by decide +kernel
set_option maxRecDepth 10000 in
theorem mb168 {cv : Int} (hcv : CNV cv) (hn : cv ≠ 110) {fl : Nat → Int32} {ct : Nat → Int} (hfl : ∀ x, x < 7 → fl x = iI (ct x)) (hct : ∀ x, x < 7 → 0 ≤ ct x ∧ ct x ≤ 100000) (w pr gv : Int32) : ((∃ i, i < 7 ∧ 1 ≤ ct i ∧ (alM cv).testBit i = false) → f_Md_barred_168 fl w pr (iI cv) gv = some 1) ∧ (¬ (∃ i, i < 7 ∧ 1 ≤ ct i ∧ (alM cv).testBit i = false) → f_Md_barred_168 fl w pr (iI cv) gv = some 0) := by
  obtain ⟨c0, c1⟩ := CNV_b hcv
  have key : ∀ o ∈ [52, 54, 56, 48, 60, 61], mW o = alM cv → ((∃ i, i < 7 ∧ 1 ≤ ct i ∧ (alM cv).testBit i = false) → f_Md_barred_267 o fl w pr (iI cv) gv = some 1) ∧ (¬ (∃ i, i < 7 ∧ 1 ≤ ct i ∧ (alM cv).testBit i = false) → f_Md_barred_267 o fl w pr (iI cv) gv = some 0) := by
    intro o ho he
    have := mb270 ho hfl hct w pr (iI cv) gv 7 gx_fu 0 (by omega) (by have := fu_big; omega)
    rw [he] at this
    exact ⟨fun ⟨i, h2, h3, h4⟩ => this.1 ⟨i, by omega, h2, h3, h4⟩, fun y => this.2 (fun ⟨i, _, h2, h3, h4⟩ => y ⟨i, h2, h3, h4⟩)⟩
  obtain ⟨cN, rfl⟩ : ∃ x : Nat, cv = (x : Int) := ⟨cv.toNat, by omega⟩
  obtain ⟨w51, w53, w55, w57, w58, w59⟩ := inW_bar ⟨cN, by omega⟩ hcv
  simp only at w51 w53 w55 w57 w58 w59
  have a0 : (0 : Int) ≤ cN := by omega
  have a1 : (cN : Int) < 128 := by omega
  have hv : cN = 100 ∨ cN = 111 ∨ cN = 120 ∨ cN = 88 ∨ cN = 101 ∨ cN = 69 ∨ cN = 102 ∨ cN = 103 ∨ cN = 71 ∨ cN = 97 ∨ cN = 65 ∨ cN = 99 ∨ cN = 67 ∨ cN = 115 ∨ cN = 83 ∨ cN = 98 ∨ cN = 66 ∨ cN = 37 := by
    unfold CNV at hcv; omega
  unfold f_Md_barred_168
  rw [one_spec (o := 51) (by omega) a0 a1, one_spec (o := 53) (by omega) a0 a1, one_spec (o := 55) (by omega) a0 a1, one_spec (o := 57) (by omega) a0 a1, one_spec (o := 58) (by omega) a0 a1, one_spec (o := 59) (by omega) a0 a1]
  simp only [Option.bind_some]
  have pick : ∀ (p : Prop) [Decidable p], ((if p then (1 : Int32) else 0) = 0) = ¬ p := fun p _ => propext (by by_cases z : p <;> simp [z])
  simp only [pick, w51, w53, w55, w57, w58, w59]
  by_cases z1 : cN = 100
  · rw [if_neg (not_not_intro z1)]; exact key 52 (by decide) (by rw [z1]; decide)
  rw [if_pos z1]
  by_cases z2 : cN = 111 ∨ cN = 120 ∨ cN = 88
  · rw [if_neg (not_not_intro z2)]; exact key 54 (by decide) (by rcases z2 with y | y | y <;> rw [y] <;> decide)
  rw [if_pos z2]
  by_cases z3 : cN = 101 ∨ cN = 69
  · rw [if_neg (not_not_intro z3)]; exact key 56 (by decide) (by rcases z3 with y | y <;> rw [y] <;> decide)
  rw [if_pos z3]
  by_cases z4 : cN = 102
  · rw [if_neg (not_not_intro z4)]; exact key 48 (by decide) (by rw [z4]; decide)
  rw [if_pos z4]
  by_cases z5 : cN = 103 ∨ cN = 71
  · rw [if_neg (not_not_intro z5)]; exact key 52 (by decide) (by rcases z5 with y | y <;> rw [y] <;> decide)
  rw [if_pos z5]
  by_cases z6 : cN = 97 ∨ cN = 65
  · rw [if_neg (not_not_intro z6)]; exact key 60 (by decide) (by rcases z6 with y | y <;> rw [y] <;> decide)
  rw [if_pos z6]
  have h61 : cN = 99 ∨ cN = 67 ∨ cN = 115 ∨ cN = 83 ∨ cN = 98 ∨ cN = 66 ∨ cN = 37 := by omega
  exact key 61 (by decide) (by rcases h61 with y | y | y | y | y | y | y <;> rw [y] <;> decide)
set_option maxRecDepth 10000 in
theorem mbarred_spec {cv : Int} (hcv : CNV cv) {fl : Nat → Int32} {ct : Nat → Int} (hfl : ∀ x, x < 7 → fl x = iI (ct x)) (hct : ∀ x, x < 7 → 0 ≤ ct x ∧ ct x ≤ 100000) {wd pr ix : Int} (w0 : -1 ≤ wd) (w1 : wd ≤ 10000) (p0 : -1 ≤ pr) (p1 : pr ≤ 10000) :
    (BAR ct wd pr cv ix → f_Md_barred fl (iI wd) (iI pr) (iI cv) (iI (if ix = 0 then 0 else 1)) = some 1) ∧ (¬ BAR ct wd pr cv ix → f_Md_barred fl (iI wd) (iI pr) (iI cv) (iI (if ix = 0 then 0 else 1)) = some 0) := by
  obtain ⟨c0, c1⟩ := CNV_b hcv
  have h4 := mb4 hfl hct (iI wd) (iI pr) (iI cv) (iI (if ix = 0 then 0 else 1)) 7 gx_fu 0 False (by omega) (by have := fu_big; omega)
  rw [if_neg (fun y => y), show iI ((0 : Nat) : Int) = 0 from rfl] at h4
  have e0 : ∀ P : Nat → Prop, (∃ i, 0 ≤ i ∧ i < 7 ∧ P i) ↔ ∃ i, i < 7 ∧ P i := fun P => ⟨fun ⟨i, _, h⟩ => ⟨i, h⟩, fun ⟨i, h⟩ => ⟨i, by omega, h⟩⟩
  rw [e0 (fun i => 2 ≤ ct i)] at h4
  unfold f_Md_barred
  by_cases q1 : ∃ i, i < 7 ∧ 2 ≤ ct i
  · have := h4.1 q1
    exact ⟨fun _ => this, fun y => absurd (Or.inl q1) y⟩
  obtain ⟨a, k', ha, e⟩ := h4.2 q1
  rw [e0 (fun i => 1 ≤ ct i)] at ha
  rw [e]
  unfold f_Md_barred_4 f_Md_barred_57 f_Md_barred_75 f_Md_barred_93
  have o0 : gx_ok (0 : Int32) 7 = true := by decide
  have o2 : gx_ok (2 : Int32) 7 = true := by decide
  have o3 : gx_ok (3 : Int32) 7 = true := by decide
  have o4 : gx_ok (4 : Int32) 7 = true := by decide
  rw [if_pos (show (7 : Int32) ≤ 7 from by decide)]
  simp only [if_pos o0, if_pos o2, if_pos o3, if_pos o4]
  rw [show (0 : Int32).toNatClampNeg = 0 from by decide, show (2 : Int32).toNatClampNeg = 2 from by decide, show (3 : Int32).toNatClampNeg = 3 from by decide, show (4 : Int32).toNatClampNeg = 4 from by decide, hfl 0 (by omega), hfl 2 (by omega), hfl 3 (by omega), hfl 4 (by omega)]
  have b0 := hct 0 (by omega)
  have b2 := hct 2 (by omega)
  have b3 := hct 3 (by omega)
  have b4 := hct 4 (by omega)
  have le0 : ∀ x : Int, 0 ≤ x → x ≤ 100000 → (iI x ≤ (0 : Int32)) = (x ≤ 0) := fun x h1 h2 => by rw [show (0 : Int32) = iI 0 from rfl, iI_le (by omega) (by omega) (by omega) (by omega)]
  have lt0 : ∀ x : Int, 0 ≤ x → x ≤ 100000 → ((0 : Int32) < iI x) = (0 < x) := fun x h1 h2 => by rw [show (0 : Int32) = iI 0 from rfl, iI_lt (by omega) (by omega) (by omega) (by omega)]
  have w00 : ((0 : Int32) ≤ iI wd) = (0 ≤ wd) := by rw [show (0 : Int32) = iI 0 from rfl, iI_le (by omega) (by omega) (by omega) (by omega)]
  simp only [le0 _ b0.1 b0.2, le0 _ b2.1 b2.2, le0 _ b4.1 b4.2, lt0 _ b0.1 b0.2, lt0 _ b3.1 b3.2, lt0 _ b4.1 b4.2, w00]
  -- behind width
  have t102 : ¬ (1 ≤ ct 0 ∧ 1 ≤ ct 4) → ¬ (1 ≤ ct 2 ∧ 1 ≤ ct 3) → ¬ ((1 ≤ ct 0 ∨ 1 ≤ ct 4) ∧ wd = -1) → (BAR ct wd pr cv ix → f_Md_barred_102 a fl (iI wd) (iI pr) (iI cv) (iI (if ix = 0 then 0 else 1)) = some 1) ∧ (¬ BAR ct wd pr cv ix → f_Md_barred_102 a fl (iI wd) (iI pr) (iI cv) (iI (if ix = 0 then 0 else 1)) = some 0) := by
    intro n2 n3 n4
    have hB : BAR ct wd pr cv ix ↔ ((∃ i, i < 7 ∧ 1 ≤ ct i ∧ (alM cv).testBit i = false) ∨ (pr ≠ -1 ∧ inW 50 cv) ∨ (cv = 110 ∧ wd ≠ -1) ∨ ((cv = 37 ∨ cv = 110) ∧ ix ≠ 0)) := by
      unfold BAR
      constructor
      · rintro (y | y | y | y | y | y)
        · exact absurd y q1
        · exact Or.inl y
        · exact absurd y n2
        · exact absurd y n3
        · exact absurd y n4
        · exact Or.inr y
      · rintro (y | y)
        · exact Or.inr (Or.inl y)
        · exact Or.inr (Or.inr (Or.inr (Or.inr (Or.inr y))))
    rw [hB]
    have t121 : ¬ (pr ≠ -1 ∧ inW 50 cv) → (((∃ i, i < 7 ∧ 1 ≤ ct i ∧ (alM cv).testBit i = false) ∨ (pr ≠ -1 ∧ inW 50 cv) ∨ (cv = 110 ∧ wd ≠ -1) ∨ ((cv = 37 ∨ cv = 110) ∧ ix ≠ 0)) → f_Md_barred_121 a fl (iI wd) (iI pr) (iI cv) (iI (if ix = 0 then 0 else 1)) = some 1) ∧ (¬ ((∃ i, i < 7 ∧ 1 ≤ ct i ∧ (alM cv).testBit i = false) ∨ (pr ≠ -1 ∧ inW 50 cv) ∨ (cv = 110 ∧ wd ≠ -1) ∨ ((cv = 37 ∨ cv = 110) ∧ ix ≠ 0)) → f_Md_barred_121 a fl (iI wd) (iI pr) (iI cv) (iI (if ix = 0 then 0 else 1)) = some 0) := by
      intro n5
      unfold f_Md_barred_121 f_Md_barred_150
      have gz : (iI (if ix = 0 then 0 else 1) = (0 : Int32)) = (ix = 0) := propext (by by_cases z : ix = 0 <;> simp [z] <;> decide)
      have c37 : (iI cv = (37 : Int32)) = (cv = 37) := by rw [show (37 : Int32) = iI 37 from rfl, iI_eq (by omega) (by omega) (by omega) (by omega)]
      have c110 : (iI cv = (110 : Int32)) = (cv = 110) := by rw [show (110 : Int32) = iI 110 from rfl, iI_eq (by omega) (by omega) (by omega) (by omega)]
      simp only [gz, c37, c110, w00]
      by_cases q110 : cv = 110
      · have n37 : ¬ cv = 37 := by omega
        rw [if_pos q110]
        have hal : (alM cv) = 0 := by rw [q110]; decide
        by_cases qw : 0 ≤ wd
        · rw [if_pos qw]
          exact ⟨fun _ => rfl, fun y => absurd (Or.inr (Or.inr (Or.inl ⟨q110, by omega⟩))) y⟩
        rw [if_neg qw]
        by_cases qa : a = 0
        · rw [if_pos qa]
          have na := ha.mp qa
          by_cases qi : ix = 0
          · rw [if_pos qi, if_neg n37]
            have hno : ¬ ((∃ i, i < 7 ∧ 1 ≤ ct i ∧ (alM cv).testBit i = false) ∨ (pr ≠ -1 ∧ inW 50 cv) ∨ (cv = 110 ∧ wd ≠ -1) ∨ ((cv = 37 ∨ cv = 110) ∧ ix ≠ 0)) := by
              rintro (⟨i, h1, h2, _⟩ | y | y | y)
              · exact na (Or.inr ⟨i, h1, h2⟩)
              · exact n5 y
              · omega
              · exact y.2 qi
            refine ⟨fun y => absurd y hno, fun _ => ?_⟩
            -- no flag at all
            have z : ∀ x, x < 7 → ct x = 0 := fun x hx => by
              have := hct x hx
              by_cases z : 1 ≤ ct x
              · exact absurd (Or.inr ⟨x, hx, z⟩) na
              · omega
            unfold f_Md_barred_168 f_Md_barred_267
            obtain ⟨cN, rfl⟩ : ∃ x : Nat, cv = (x : Int) := ⟨cv.toNat, by omega⟩
            obtain ⟨w51, w53, w55, w57, w58, w59⟩ := inW_bar ⟨cN, by omega⟩ hcv
            simp only at w51 w53 w55 w57 w58 w59
            have a0 : (0 : Int) ≤ cN := by omega
            have a1 : (cN : Int) < 128 := by omega
            rw [one_spec (o := 51) (by omega) a0 a1, one_spec (o := 53) (by omega) a0 a1, one_spec (o := 55) (by omega) a0 a1, one_spec (o := 57) (by omega) a0 a1, one_spec (o := 58) (by omega) a0 a1, one_spec (o := 59) (by omega) a0 a1]
            simp only [Option.bind_some]
            rw [if_neg (show ¬ inW 51 (cN : Int) from fun y => by have := w51.mp y; omega), if_pos rfl, if_neg (show ¬ inW 53 (cN : Int) from fun y => by have := w53.mp y; omega), if_pos rfl, if_neg (show ¬ inW 55 (cN : Int) from fun y => by have := w55.mp y; omega), if_pos rfl, if_neg (show ¬ inW 57 (cN : Int) from fun y => by have := w57.mp y; omega), if_pos rfl, if_neg (show ¬ inW 58 (cN : Int) from fun y => by have := w58.mp y; omega), if_pos rfl, if_neg (show ¬ inW 59 (cN : Int) from fun y => by have := w59.mp y; omega), if_pos rfl]
            exact (mb270 (o := 61) (by decide) hfl hct (iI wd) (iI pr) (iI cN) _ 7 gx_fu 0 (by omega) (by have := fu_big; omega)).2 (fun ⟨i, _, h2, h3, _⟩ => by have := z i h2; omega)
          · rw [if_neg qi]
            exact ⟨fun _ => rfl, fun y => absurd (Or.inr (Or.inr (Or.inr ⟨Or.inr q110, qi⟩))) y⟩
        · rw [if_neg qa]
          refine ⟨fun _ => rfl, fun y => absurd ?_ y⟩
          have : ∃ i, i < 7 ∧ 1 ≤ ct i := by
            apply Classical.byContradiction
            intro z
            exact qa (ha.mpr (fun w => by rcases w with w | w; exact w; exact z w))
          obtain ⟨i, h1, h2⟩ := this
          exact Or.inl ⟨i, h1, h2, by rw [hal]; simp⟩
      · rw [if_neg q110]
        have m := mb168 hcv q110 hfl hct (iI wd) (iI pr) (iI (if ix = 0 then 0 else 1))
        have rest : ¬ (cv = 37 ∧ ix ≠ 0) → (((∃ i, i < 7 ∧ 1 ≤ ct i ∧ (alM cv).testBit i = false) ∨ (pr ≠ -1 ∧ inW 50 cv) ∨ (cv = 110 ∧ wd ≠ -1) ∨ ((cv = 37 ∨ cv = 110) ∧ ix ≠ 0)) → f_Md_barred_168 fl (iI wd) (iI pr) (iI cv) (iI (if ix = 0 then 0 else 1)) = some 1) ∧ (¬ ((∃ i, i < 7 ∧ 1 ≤ ct i ∧ (alM cv).testBit i = false) ∨ (pr ≠ -1 ∧ inW 50 cv) ∨ (cv = 110 ∧ wd ≠ -1) ∨ ((cv = 37 ∨ cv = 110) ∧ ix ≠ 0)) → f_Md_barred_168 fl (iI wd) (iI pr) (iI cv) (iI (if ix = 0 then 0 else 1)) = some 0) := by
          intro n7
          refine ⟨?_, fun y => m.2 (fun z => y (Or.inl z))⟩
          rintro (y | y | y | y)
          · exact m.1 y
          · exact absurd y n5
          · exact absurd y.1 q110
          · rcases y.1 with z | z
            · exact absurd ⟨z, y.2⟩ n7
            · exact absurd z q110
        by_cases q37 : cv = 37
        · rw [if_pos q37]
          by_cases qi : ix = 0
          · rw [if_pos qi]
            exact rest (fun y => y.2 qi)
          · rw [if_neg qi]
            exact ⟨fun _ => rfl, fun y => absurd (Or.inr (Or.inr (Or.inr ⟨Or.inl q37, qi⟩))) y⟩
        · rw [if_neg q37]
          exact rest (fun y => q37 y.1)
    unfold f_Md_barred_102
    rw [one_spec (o := 50) (by omega) (by omega) c1, Option.bind_some]
    by_cases qp : pr < 0
    · rw [if_pos (show iI pr < 0 from by simp (disch := omega) only [iI_lit, iL_lit, iI_add, iI_sub, iI_mul, iI_neg, iL_add, iL_sub, iL_mul, iL_neg, iI_lt, iI_le, iI_eq, iL_lt, iL_le, iL_eqS, iI_c, iI_ok, iI_l, iL_i, iI_low, l_ushrI, l_shlI, l_shrI, i_shlI, i_shrI, i_ushrI, iI_div, iL_div, Int.toNat_natCast, Int.reduceToNat, iI_ofNat]; omega)]
      exact t121 (fun y => y.1 (by omega))
    · rw [if_neg (show ¬ iI pr < 0 from by simp (disch := omega) only [iI_lit, iL_lit, iI_add, iI_sub, iI_mul, iI_neg, iL_add, iL_sub, iL_mul, iL_neg, iI_lt, iI_le, iI_eq, iL_lt, iL_le, iL_eqS, iI_c, iI_ok, iI_l, iL_i, iI_low, l_ushrI, l_shlI, l_shrI, i_shlI, i_shrI, i_ushrI, iI_div, iL_div, Int.toNat_natCast, Int.reduceToNat, iI_ofNat]; omega)]
      by_cases q50 : inW 50 cv
      · rw [if_pos q50, if_neg (show ¬ (1 : Int32) = 0 from by decide)]
        exact ⟨fun _ => rfl, fun y => absurd (Or.inr (Or.inl ⟨by omega, q50⟩)) y⟩
      · rw [if_neg q50, if_pos rfl]
        exact t121 (fun y => q50 y.2)
  have t75 : ¬ (1 ≤ ct 0 ∧ 1 ≤ ct 4) → ¬ (1 ≤ ct 2 ∧ 1 ≤ ct 3) → (BAR ct wd pr cv ix → (if 0 < ct 0 then (if 0 ≤ wd then f_Md_barred_102 a fl (iI wd) (iI pr) (iI cv) (iI (if ix = 0 then 0 else 1)) else some 1) else (if ct 4 ≤ 0 then f_Md_barred_102 a fl (iI wd) (iI pr) (iI cv) (iI (if ix = 0 then 0 else 1)) else (if 0 ≤ wd then f_Md_barred_102 a fl (iI wd) (iI pr) (iI cv) (iI (if ix = 0 then 0 else 1)) else some 1))) = some 1) ∧ (¬ BAR ct wd pr cv ix → (if 0 < ct 0 then (if 0 ≤ wd then f_Md_barred_102 a fl (iI wd) (iI pr) (iI cv) (iI (if ix = 0 then 0 else 1)) else some 1) else (if ct 4 ≤ 0 then f_Md_barred_102 a fl (iI wd) (iI pr) (iI cv) (iI (if ix = 0 then 0 else 1)) else (if 0 ≤ wd then f_Md_barred_102 a fl (iI wd) (iI pr) (iI cv) (iI (if ix = 0 then 0 else 1)) else some 1))) = some 0) := by
    intro n2 n3
    have w93 : (1 ≤ ct 0 ∨ 1 ≤ ct 4) → (BAR ct wd pr cv ix → (if 0 ≤ wd then f_Md_barred_102 a fl (iI wd) (iI pr) (iI cv) (iI (if ix = 0 then 0 else 1)) else some 1) = some 1) ∧ (¬ BAR ct wd pr cv ix → (if 0 ≤ wd then f_Md_barred_102 a fl (iI wd) (iI pr) (iI cv) (iI (if ix = 0 then 0 else 1)) else some 1) = some 0) := by
      intro y
      by_cases qw : 0 ≤ wd
      · rw [if_pos qw]; exact t102 n2 n3 (fun z => by omega)
      · rw [if_neg qw]; exact ⟨fun _ => rfl, fun z => absurd (Or.inr (Or.inr (Or.inr (Or.inr (Or.inl ⟨y, by omega⟩))))) z⟩
    by_cases y0 : 0 < ct 0
    · rw [if_pos y0]; exact w93 (by omega)
    · rw [if_neg y0]
      by_cases y4 : ct 4 ≤ 0
      · rw [if_pos y4]; exact t102 n2 n3 (by omega)
      · rw [if_neg y4]; exact w93 (by omega)
  have t57 : ¬ (1 ≤ ct 0 ∧ 1 ≤ ct 4) → (BAR ct wd pr cv ix → (if ct 2 ≤ 0 then (if 0 < ct 0 then (if 0 ≤ wd then f_Md_barred_102 a fl (iI wd) (iI pr) (iI cv) (iI (if ix = 0 then 0 else 1)) else some 1) else (if ct 4 ≤ 0 then f_Md_barred_102 a fl (iI wd) (iI pr) (iI cv) (iI (if ix = 0 then 0 else 1)) else (if 0 ≤ wd then f_Md_barred_102 a fl (iI wd) (iI pr) (iI cv) (iI (if ix = 0 then 0 else 1)) else some 1))) else (if 0 < ct 3 then some 1 else (if 0 < ct 0 then (if 0 ≤ wd then f_Md_barred_102 a fl (iI wd) (iI pr) (iI cv) (iI (if ix = 0 then 0 else 1)) else some 1) else (if ct 4 ≤ 0 then f_Md_barred_102 a fl (iI wd) (iI pr) (iI cv) (iI (if ix = 0 then 0 else 1)) else (if 0 ≤ wd then f_Md_barred_102 a fl (iI wd) (iI pr) (iI cv) (iI (if ix = 0 then 0 else 1)) else some 1))))) = some 1) ∧ (¬ BAR ct wd pr cv ix → (if ct 2 ≤ 0 then (if 0 < ct 0 then (if 0 ≤ wd then f_Md_barred_102 a fl (iI wd) (iI pr) (iI cv) (iI (if ix = 0 then 0 else 1)) else some 1) else (if ct 4 ≤ 0 then f_Md_barred_102 a fl (iI wd) (iI pr) (iI cv) (iI (if ix = 0 then 0 else 1)) else (if 0 ≤ wd then f_Md_barred_102 a fl (iI wd) (iI pr) (iI cv) (iI (if ix = 0 then 0 else 1)) else some 1))) else (if 0 < ct 3 then some 1 else (if 0 < ct 0 then (if 0 ≤ wd then f_Md_barred_102 a fl (iI wd) (iI pr) (iI cv) (iI (if ix = 0 then 0 else 1)) else some 1) else (if ct 4 ≤ 0 then f_Md_barred_102 a fl (iI wd) (iI pr) (iI cv) (iI (if ix = 0 then 0 else 1)) else (if 0 ≤ wd then f_Md_barred_102 a fl (iI wd) (iI pr) (iI cv) (iI (if ix = 0 then 0 else 1)) else some 1))))) = some 0) := by
    intro n2
    by_cases y2 : ct 2 ≤ 0
    · rw [if_pos y2]; exact t75 n2 (by omega)
    · rw [if_neg y2]
      by_cases y3 : 0 < ct 3
      · rw [if_pos y3]
        exact ⟨fun _ => rfl, fun z => absurd (Or.inr (Or.inr (Or.inr (Or.inl ⟨by omega, by omega⟩)))) z⟩
      · rw [if_neg y3]; exact t75 n2 (by omega)
  by_cases y0 : ct 0 ≤ 0
  · rw [if_pos y0]; exact t57 (by omega)
  · rw [if_neg y0]
    by_cases y4 : 0 < ct 4
    · rw [if_pos y4]
      exact ⟨fun _ => rfl, fun z => absurd (Or.inr (Or.inr (Or.inl ⟨by omega, by omega⟩))) z⟩
    · rw [if_neg y4]; exact t57 (by omega)
-- UY
set_option maxRecDepth 10000 in
def BARX (X : List Int32) (k : Nat) : Prop := BAR (dCt X (k + 1)) (dWd X (k + 1)) (dPr X (k + 1)) (dCv X (k + 1)) (ixP X (k + 1)).1
set_option maxRecDepth 10000 in
noncomputable def fB (X : List Int32) : List Nat → Option Nat
  | [] => none
  | k :: t => @ite _ (BARX X k) (Classical.propDecidable _) (some k) (fB X t)
set_option maxRecDepth 10000 in
def GOODL (X : List Int32) (L : List Nat) : Prop := ∀ k ∈ L, k < X.length ∧ DOK X (k + 1)
set_option maxRecDepth 10000 in
theorem dirs_good (X : List Int32) : ∀ d p, GOODL X (dirs X d p).1
  | 0, p => by intro k hk; simp [dirs] at hk
  | d + 1, p => by
    unfold dirs
    split
    · rename_i h1
      split
      · rename_i h2
        intro k hk
        rcases List.mem_cons.mp hk with rfl | hk
        · exact ⟨h1, h2⟩
        · exact dirs_good X d _ k hk
      · intro k hk; simp at hk
    · intro k hk; simp at hk
set_option maxRecDepth 10000 in
theorem dirs_len (X : List Int32) : ∀ d p, p ≤ X.length → 2 * (dirs X d p).1.length + p ≤ X.length
  | 0, p, h => by simp [dirs]; omega
  | d + 1, p, h => by
    unfold dirs
    have hs := sK_b h
    split
    · rename_i h1
      split
      · rename_i h2
        have hP := dP_b (X := X) (p := sK X p + 1) (by omega)
        have hin := DOK_in h2
        have := dirs_len X d (dP3 X (sK X p + 1) + 1) (by omega)
        simp only [List.length_cons]
        omega
      · simp; omega
    · simp; omega
set_option maxRecDepth 10000 in
theorem firstBarred_loop {X : List Int32} {wc ic pc cc fl pl ac : Nat → Int32} {L : List Nat} (hF : FMT X wc ic pc cc fl pl ac L) (hG : GOODL X L) (hL : L.length ≤ 500) : ∀ (d k v : Nat), v + d = L.length → d < k → f_Fm_firstBarred_2 k (iI v) (iI L.length) cc fl pc ic wc pl = some (match fB X (L.drop v) with | some j => iI j | none => -1) := by
  intro d
  induction d with
  | zero =>
    intro k v hd hk
    obtain ⟨k, rfl⟩ : ∃ x, k = x + 1 := ⟨k - 1, by omega⟩
    unfold f_Fm_firstBarred_2
    rw [if_pos (show iI (L.length : Int) ≤ iI (v : Int) from by simp (disch := omega) only [iI_lit, iL_lit, iI_add, iI_sub, iI_mul, iI_neg, iL_add, iL_sub, iL_mul, iL_neg, iI_lt, iI_le, iI_eq, iL_lt, iL_le, iL_eqS, iI_c, iI_ok, iI_l, iL_i, iI_low, l_ushrI, l_shlI, l_shrI, i_shlI, i_shrI, i_ushrI, iI_div, iL_div, Int.toNat_natCast, Int.reduceToNat, iI_ofNat]; omega), List.drop_of_length_le (by omega)]
    rfl
  | succ d ih =>
    intro k v hd hk
    obtain ⟨k, rfl⟩ : ∃ x, k = x + 1 := ⟨k - 1, by omega⟩
    have hvl : v < L.length := by omega
    have hok : gx_ok (iI (v : Int)) 500 = true := by simp (disch := omega) only [iI_lit, iL_lit, iI_add, iI_sub, iI_mul, iI_neg, iL_add, iL_sub, iL_mul, iL_neg, iI_lt, iI_le, iI_eq, iL_lt, iL_le, iL_eqS, iI_c, iI_ok, iI_l, iL_i, iI_low, l_ushrI, l_shlI, l_shrI, i_shlI, i_shrI, i_ushrI, iI_div, iL_div, Int.toNat_natCast, Int.reduceToNat, iI_ofNat]; omega
    have hg := List.getElem?_eq_getElem hvl
    have f1 := hF v _ hg
    obtain ⟨hkX, hDOK⟩ := hG _ (List.getElem_mem hvl)
    obtain ⟨m, hm, hfm⟩ := f1.f
    have hw := dWd_b X (L[v] + 1)
    have hi := ixP_b (X := X) (p := L[v] + 1) (by omega)
    have hpb := qPr_b X (dP2 X (L[v] + 1))
    have hp1 : -1 ≤ dPr X (L[v] + 1) := hDOK.2.2.1
    have hp2 : dPr X (L[v] + 1) ≤ 9999 := hDOK.2.2.2.1
    have hb := isBarred_spec (i := v) (by omega) hDOK.2.2.2.2 hm f1.c hfm f1.p f1.x f1.w hw.1 hw.2 hp1 (by omega) hi.1 hi.2.1
    unfold f_Fm_firstBarred_2
    rw [if_neg (show ¬ iI (L.length : Int) ≤ iI (v : Int) from by simp (disch := omega) only [iI_lit, iL_lit, iI_add, iI_sub, iI_mul, iI_neg, iL_add, iL_sub, iL_mul, iL_neg, iI_lt, iI_le, iI_eq, iL_lt, iL_le, iL_eqS, iI_c, iI_ok, iI_l, iL_i, iI_low, l_ushrI, l_shlI, l_shrI, i_shlI, i_shrI, i_ushrI, iI_div, iL_div, Int.toNat_natCast, Int.reduceToNat, iI_ofNat]; omega), List.drop_eq_getElem_cons hvl]
    unfold fB
    by_cases q : BARX X L[v]
    · rw [hb.1 q, Option.bind_some, if_neg (show ¬ (1 : Int32) = 0 from by decide), if_pos hok, if_pos q, iI_c (by omega) (by omega), Int.toNat_natCast, f1.l]
    · rw [hb.2 q, Option.bind_some, if_pos rfl, if_neg q, e1N]
      exact ih k (v + 1) (by omega) (by omega)
set_option maxRecDepth 10000 in
theorem firstBarred_spec {X : List Int32} {wc ic pc cc fl pl ac : Nat → Int32} {L : List Nat} (hF : FMT X wc ic pc cc fl pl ac L) (hG : GOODL X L) (hL : L.length ≤ 500) : f_Fm_firstBarred (iI L.length) cc fl pc ic wc pl = some (match fB X L with | some j => iI j | none => -1) := by
  have := firstBarred_loop hF hG hL L.length gx_fu 0 (by omega) (by have := fu_big; omega)
  rw [List.drop_zero] at this
  exact this
set_option maxRecDepth 10000 in
def nA (X : List Int32) : List Nat → Int → Int → List Int
  | [], _, _ => []
  | k :: t, nx, sm => if dCv X (k + 1) = 37 ∨ dCv X (k + 1) = 110 then (ixP X (k + 1)).1 :: nA X t nx sm else if (ixP X (k + 1)).1 = 0 then nx :: nA X t (nx + 1) nx else if (ixP X (k + 1)).1 = -1 then sm :: nA X t nx sm else ((ixP X (k + 1)).1 - 1) :: nA X t nx ((ixP X (k + 1)).1 - 1)
set_option maxRecDepth 10000 in
theorem nA_len (X : List Int32) : ∀ L nx sm, (nA X L nx sm).length = L.length
  | [], _, _ => rfl
  | k :: t, nx, sm => by
    unfold nA
    split
    · simp [nA_len X t]
    · split
      · simp [nA_len X t]
      · split <;> simp [nA_len X t]
set_option maxRecDepth 10000 in
theorem numArg_loop {X : List Int32} {cc : Nat → Int32} {L : List Nat} (hc : ∀ i k, L[i]? = some k → cc i = iI (dCv X (k + 1))) (hG : GOODL X L) (hL : L.length ≤ 500) : ∀ (d k v : Nat) (nx sm : Int) (ic : Nat → Int32), v + d = L.length → d < k → 0 ≤ nx → nx ≤ v → -1 ≤ sm → sm ≤ 10000 → (∀ i j, v ≤ i → L[i]? = some j → ic i = iI (ixP X (j + 1)).1) →
    ∃ ic', f_Fm_numberArguments_6 k (iI nx) (iI sm) (iI v) (iI L.length) cc ic = some ic' ∧ (∀ i, i < v → ic' i = ic i) ∧ ∀ i a, (nA X (L.drop v) nx sm)[i]? = some a → ic' (v + i) = iI a := by
  intro d
  induction d with
  | zero =>
    intro k v nx sm ic hd hk n0 n1 s0 s1 hic
    obtain ⟨k, rfl⟩ : ∃ x, k = x + 1 := ⟨k - 1, by omega⟩
    unfold f_Fm_numberArguments_6
    rw [if_pos (show iI (L.length : Int) ≤ iI (v : Int) from by simp (disch := omega) only [iI_lit, iL_lit, iI_add, iI_sub, iI_mul, iI_neg, iL_add, iL_sub, iL_mul, iL_neg, iI_lt, iI_le, iI_eq, iL_lt, iL_le, iL_eqS, iI_c, iI_ok, iI_l, iL_i, iI_low, l_ushrI, l_shlI, l_shrI, i_shlI, i_shrI, i_ushrI, iI_div, iL_div, Int.toNat_natCast, Int.reduceToNat, iI_ofNat]; omega), List.drop_of_length_le (by omega)]
    exact ⟨ic, rfl, fun _ _ => rfl, fun i a h => by simp [nA] at h⟩
  | succ d ih =>
    intro k v nx sm ic hd hk n0 n1 s0 s1 hic
    obtain ⟨k, rfl⟩ : ∃ x, k = x + 1 := ⟨k - 1, by omega⟩
    have hvl : v < L.length := by omega
    have hok : gx_ok (iI (v : Int)) 500 = true := by simp (disch := omega) only [iI_lit, iL_lit, iI_add, iI_sub, iI_mul, iI_neg, iL_add, iL_sub, iL_mul, iL_neg, iI_lt, iI_le, iI_eq, iL_lt, iL_le, iL_eqS, iI_c, iI_ok, iI_l, iL_i, iI_low, l_ushrI, l_shlI, l_shrI, i_shlI, i_shrI, i_ushrI, iI_div, iL_div, Int.toNat_natCast, Int.reduceToNat, iI_ofNat]; omega
    have hg := List.getElem?_eq_getElem hvl
    obtain ⟨hkX, hDOK⟩ := hG _ (List.getElem_mem hvl)
    have hi := ixP_b (X := X) (p := L[v] + 1) (by omega)
    have hcb := CNV_b hDOK.2.2.2.2
    have c37 : (iI (dCv X (L[v] + 1)) = (37 : Int32)) = (dCv X (L[v] + 1) = 37) := by rw [show (37 : Int32) = iI 37 from rfl, iI_eq (by omega) (by omega) (by omega) (by omega)]
    have c110 : (iI (dCv X (L[v] + 1)) = (110 : Int32)) = (dCv X (L[v] + 1) = 110) := by rw [show (110 : Int32) = iI 110 from rfl, iI_eq (by omega) (by omega) (by omega) (by omega)]
    have x0 : (iI (ixP X (L[v] + 1)).1 = (0 : Int32)) = ((ixP X (L[v] + 1)).1 = 0) := by rw [show (0 : Int32) = iI 0 from rfl, iI_eq (by omega) (by omega) (by omega) (by omega)]
    have x1 : (iI (ixP X (L[v] + 1)).1 = (-1 : Int32)) = ((ixP X (L[v] + 1)).1 = -1) := by rw [show (-1 : Int32) = iI (-1) from rfl, iI_eq (by omega) (by omega) (by omega) (by omega)]
    unfold f_Fm_numberArguments_6 f_Fm_numberArguments_58 f_Fm_numberArguments_65 f_Fm_takesArgument f_Fm_takesArgument_26
    rw [if_neg (show ¬ iI (L.length : Int) ≤ iI (v : Int) from by simp (disch := omega) only [iI_lit, iL_lit, iI_add, iI_sub, iI_mul, iI_neg, iL_add, iL_sub, iL_mul, iL_neg, iI_lt, iI_le, iI_eq, iL_lt, iL_le, iL_eqS, iI_c, iI_ok, iI_l, iL_i, iI_low, l_ushrI, l_shlI, l_shrI, i_shlI, i_shrI, i_ushrI, iI_div, iL_div, Int.toNat_natCast, Int.reduceToNat, iI_ofNat]; omega), List.drop_eq_getElem_cons hvl]
    simp only [if_pos hok]
    rw [iI_c (by omega) (by omega), Int.toNat_natCast, hc v _ hg, hic v _ (by omega) hg]
    simp only [c37, c110, x0, x1]
    -- one step: this one takes a
    have step : ∀ (nx' sm' a : Int), 0 ≤ nx' → nx' ≤ (v : Int) + 1 → -1 ≤ sm' → sm' ≤ 10000 → ∃ ic', f_Fm_numberArguments_6 k (iI nx') (iI sm') (iI v + 1) (iI L.length) cc (upd ic v (iI a)) = some ic' ∧ (∀ i, i < v → ic' i = ic i) ∧ ∀ i b, (a :: nA X (L.drop (v + 1)) nx' sm')[i]? = some b → ic' (v + i) = iI b := by
      intro nx' sm' a h1 h2 h3 h4
      rw [e1N]
      obtain ⟨ic', e, hlo, hhi⟩ := ih k (v + 1) nx' sm' (upd ic v (iI a)) (by omega) (by omega) h1 (by omega) h3 h4 (fun i j hi' hj => by rw [upd_n (by omega)]; exact hic i j (by omega) hj)
      refine ⟨ic', e, fun i hi' => by rw [hlo i (by omega), upd_n (by omega)], fun i b hb => ?_⟩
      cases i with
      | zero => simp at hb; rw [Nat.add_zero, hlo v (by omega), upd_s, hb]
      | succ i => rw [List.getElem?_cons_succ] at hb; have := hhi i b hb; rw [show v + (i + 1) = v + 1 + i by omega]; exact this
    have hkeep : upd ic v (iI (ixP X (L[v] + 1)).1) = ic := by
      funext j
      unfold upd
      split
      · rename_i e; subst e; rw [hic j _ (by omega) hg]
      · rfl
    unfold nA
    by_cases q1 : dCv X (L[v] + 1) = 37
    · have := step nx sm (ixP X (L[v] + 1)).1 n0 (by omega) s0 s1
      rw [hkeep] at this
      rw [if_pos q1, Option.bind_some, if_pos rfl, if_pos (Or.inl q1)]
      exact this
    rw [if_neg q1]
    by_cases q2 : dCv X (L[v] + 1) = 110
    · have := step nx sm (ixP X (L[v] + 1)).1 n0 (by omega) s0 s1
      rw [hkeep] at this
      rw [if_pos q2, Option.bind_some, if_pos rfl, if_pos (Or.inr q2)]
      exact this
    rw [if_neg q2, Option.bind_some, if_neg (show ¬ (1 : Int32) = 0 from by decide), if_neg (show ¬ (dCv X (L[v] + 1) = 37 ∨ dCv X (L[v] + 1) = 110) by omega)]
    by_cases q3 : (ixP X (L[v] + 1)).1 = 0
    · rw [if_pos q3, if_pos q3]
      have := step (nx + 1) nx nx (by omega) (by omega) (by omega) (by omega)
      rw [show (1 : Int32) = iI 1 from rfl, iI_add]
      exact this
    rw [if_neg q3, if_neg q3]
    by_cases q4 : (ixP X (L[v] + 1)).1 = -1
    · rw [if_pos q4, if_pos q4]
      exact step nx sm sm n0 (by omega) s0 s1
    · rw [if_neg q4, if_neg q4]
      have := step nx ((ixP X (L[v] + 1)).1 - 1) ((ixP X (L[v] + 1)).1 - 1) n0 (by omega) (by omega) (by omega)
      have e2 : iI (ixP X (L[v] + 1)).1 - (1 : Int32) = iI ((ixP X (L[v] + 1)).1 - 1) := by rw [show (1 : Int32) = iI 1 from rfl, iI_sub]
      rw [e2]
      exact this
set_option maxRecDepth 10000 in
abbrev FM2 (X : List Int32) (wc ic pc cc fl pl ac : Nat → Int32) (L : List Nat) (i k : Nat) : Prop := (wc i = iI (dWd X (k + 1))) ∧ (∃ a, (nA X L 0 (-1))[i]? = some a ∧ ic i = iI a) ∧ (pc i = iI (dPr X (k + 1))) ∧ (cc i = iI (dCv X (k + 1))) ∧ (∃ m, FLX m (dCt X (k + 1)) ∧ fl i = iI m) ∧ (pl i = iI k) ∧ (ac i = iI ((dP3 X (k + 1) + 1 : Nat) : Int))
set_option maxRecDepth 10000 in
theorem FM2.w {X : List Int32} {wc ic pc cc fl pl ac : Nat → Int32} {L : List Nat} {i k : Nat} (h_ : FM2 X wc ic pc cc fl pl ac L i k) : wc i = iI (dWd X (k + 1)) := h_.1
set_option maxRecDepth 10000 in
theorem FM2.x {X : List Int32} {wc ic pc cc fl pl ac : Nat → Int32} {L : List Nat} {i k : Nat} (h_ : FM2 X wc ic pc cc fl pl ac L i k) : ∃ a, (nA X L 0 (-1))[i]? = some a ∧ ic i = iI a := h_.2.1
set_option maxRecDepth 10000 in
theorem FM2.p {X : List Int32} {wc ic pc cc fl pl ac : Nat → Int32} {L : List Nat} {i k : Nat} (h_ : FM2 X wc ic pc cc fl pl ac L i k) : pc i = iI (dPr X (k + 1)) := h_.2.2.1
set_option maxRecDepth 10000 in
theorem FM2.c {X : List Int32} {wc ic pc cc fl pl ac : Nat → Int32} {L : List Nat} {i k : Nat} (h_ : FM2 X wc ic pc cc fl pl ac L i k) : cc i = iI (dCv X (k + 1)) := h_.2.2.2.1
set_option maxRecDepth 10000 in
theorem FM2.f {X : List Int32} {wc ic pc cc fl pl ac : Nat → Int32} {L : List Nat} {i k : Nat} (h_ : FM2 X wc ic pc cc fl pl ac L i k) : ∃ m, FLX m (dCt X (k + 1)) ∧ fl i = iI m := h_.2.2.2.2.1
set_option maxRecDepth 10000 in
theorem FM2.l {X : List Int32} {wc ic pc cc fl pl ac : Nat → Int32} {L : List Nat} {i k : Nat} (h_ : FM2 X wc ic pc cc fl pl ac L i k) : pl i = iI k := h_.2.2.2.2.2.1
set_option maxRecDepth 10000 in
theorem FM2.a {X : List Int32} {wc ic pc cc fl pl ac : Nat → Int32} {L : List Nat} {i k : Nat} (h_ : FM2 X wc ic pc cc fl pl ac L i k) : ac i = iI ((dP3 X (k + 1) + 1 : Nat) : Int) := h_.2.2.2.2.2.2
set_option maxRecDepth 10000 in
def FMG (X : List Int32) (wc ic pc cc fl pl ac : Nat → Int32) (L : List Nat) : Prop := ∀ i k, L[i]? = some k → FM2 X wc ic pc cc fl pl ac L i k
set_option maxRecDepth 10000 in
theorem numArg_spec {X : List Int32} {wc ic pc cc fl pl ac : Nat → Int32} {L : List Nat} (hF : FMT X wc ic pc cc fl pl ac L) (hG : GOODL X L) (hL : L.length ≤ 500) : ∃ ic', f_Fm_numberArguments (iI L.length) cc ic = some ic' ∧ FMG X wc ic' pc cc fl pl ac L := by
  obtain ⟨ic', e, _, h⟩ := numArg_loop (fun i k hk => (hF i k hk).c) hG hL L.length gx_fu 0 0 (-1) ic (by omega) (by have := fu_big; omega) (by omega) (by omega) (by omega) (by omega) (fun i j _ hj => (hF i j hj).x)
  rw [List.drop_zero] at h
  refine ⟨ic', e, fun i k hk => ?_⟩
  have f1 := hF i k hk
  have hi : i < (nA X L 0 (-1)).length := by rw [nA_len]; exact (List.getElem?_eq_some_iff.mp hk).1
  refine ⟨f1.w, ⟨_, List.getElem?_eq_getElem hi, ?_⟩, f1.p, f1.c, f1.f, f1.l, f1.a⟩
  have := h i _ (List.getElem?_eq_getElem hi)
  rw [Nat.zero_add] at this
  exact this
-- UZ
set_option maxRecDepth 10000 in
def FOK (X : List Int32) : Prop := X.length ≤ 1000 ∧ (dirL X).2 = none ∧ fB X (dirL X).1 = none
set_option maxRecDepth 10000 in
theorem dirL_b {X : List Int32} (h : X.length ≤ 1000) : (dirL X).1.length ≤ 500 := by
  have := dirs_len X (X.length + 1) 0 (by omega)
  unfold dirL; omega
set_option maxRecDepth 10000 in
theorem spare_copy {nT : Nat} (hnT : nT < 1000000) {tl to : Int32} {tc : Nat → Int32} {X : List Int32} (hT : BY nT tl to tc X) (hX : X.length ≤ nT) {stl sto : Int32} {stc : Nat → Int32} {S : List Int32} (hS : BY 1000 stl sto stc S) (h : X.length ≤ 1000) : ∃ l o c, f_By_copy 1000 nT stl tl tc sto stc = some (l, o, c) ∧ BY 1000 l o c X := by
  obtain ⟨l, o, c, e, b⟩ := bcopy_spec (n := 1000) (n2 := nT) (by omega) (by omega) hS hT
  rw [List.take_of_length_le hX] at b
  exact ⟨l, o, c, e, b⟩
set_option maxRecDepth 10000 in
theorem tape_len {nT : Nat} (hnT : nT < 1000000) {tl to : Int32} {tc : Nat → Int32} {X : List Int32} (hT : BY nT tl to tc X) (hX : X.length ≤ nT) {stl sto : Int32} {stc : Nat → Int32} {S : List Int32} (hS : BY 1000 stl sto stc S) : tl = iI (X.length : Int) := by rw [hT.1]; congr 2; omega
set_option maxRecDepth 10000 in
theorem ntcompile_ok {nT : Nat} (hnT : nT < 1000000) {tl to : Int32} {tc : Nat → Int32} {X : List Int32} (hT : BY nT tl to tc X) (hX : X.length ≤ nT) {stl sto : Int32} {stc : Nat → Int32} {S : List Int32} (hS : BY 1000 stl sto stc S) (sat sdr plc : Int32) (wc ic pc cc fl pl ac : Nat → Int32) (epr edr cnt spr : Int32) {f : Nat} (hf : f < 8) (hO : FOK X) :
    ∃ l o c at' wc' ic' pc' cc' fl' pl' ac', f_Nt_compile (iI f) 1000 nT tl stl sat stc sdr wc ic pc cc fl plc pl f epr edr cnt tc sto to ac spr = some (iI ((dirL X).1.length : Nat), iI 0, l, at', c, iI ((dirL X).1.length : Nat), wc', ic', pc', cc', fl', -1, pl', (if epr = 0 then cnt + 1 else cnt), o, iI 0, ac', 1) ∧ BY 1000 l o c X ∧ FMG X wc' ic' pc' cc' fl' pl' ac' (dirL X).1 := by
  obtain ⟨hl, hw, hb⟩ := hO
  obtain ⟨l, o, c, e, b⟩ := spare_copy hnT hT hX hS hl
  have htl := tape_len hnT hT hX hS
  have hok : gx_ok (iI (f : Int)) 8 = true := by simp (disch := omega) only [iI_lit, iL_lit, iI_add, iI_sub, iI_mul, iI_neg, iL_add, iL_sub, iL_mul, iL_neg, iI_lt, iI_le, iI_eq, iL_lt, iL_le, iL_eqS, iI_c, iI_ok, iI_l, iL_i, iI_low, l_ushrI, l_shlI, l_shrI, i_shlI, i_shrI, i_ushrI, iI_div, iL_div, Int.toNat_natCast, Int.reduceToNat, iI_ofNat]; omega
  obtain ⟨q, e1, _, h2⟩ := firstWrong_spec b hl sat sdr wc ic pc cc fl pl ac
  obtain ⟨a1, a2, a3⟩ := h2 hw
  have hG := dirs_good X (X.length + 1) 0
  have hG' : GOODL X (dirL X).1 := hG
  have e2 := firstBarred_spec a3 hG' (dirL_b hl)
  rw [hb] at e2
  obtain ⟨ic', e3, hM⟩ := numArg_spec a3 hG' (dirL_b hl)
  unfold f_Nt_compile f_Nt_compile_43 f_Nt_compile_62 f_Nt_keepSpare f_Nt_keepSpare_24
  rw [if_neg (show ¬ iI (f : Int) < 0 from by simp (disch := omega) only [iI_lit, iL_lit, iI_add, iI_sub, iI_mul, iI_neg, iL_add, iL_sub, iL_mul, iL_neg, iI_lt, iI_le, iI_eq, iL_lt, iL_le, iL_eqS, iI_c, iI_ok, iI_l, iL_i, iI_low, l_ushrI, l_shlI, l_shrI, i_shlI, i_shrI, i_ushrI, iI_div, iL_div, Int.toNat_natCast, Int.reduceToNat, iI_ofNat]; omega), if_pos (show iI (f : Int) < 8 from by simp (disch := omega) only [iI_lit, iL_lit, iI_add, iI_sub, iI_mul, iI_neg, iL_add, iL_sub, iL_mul, iL_neg, iI_lt, iI_le, iI_eq, iL_lt, iL_le, iL_eqS, iI_c, iI_ok, iI_l, iL_i, iI_low, l_ushrI, l_shlI, l_shrI, i_shlI, i_shrI, i_ushrI, iI_div, iL_div, Int.toNat_natCast, Int.reduceToNat, iI_ofNat]; omega), if_neg (show ¬ (1000 : Int32) < tl from by rw [htl]; simp (disch := omega) only [iI_lit, iL_lit, iI_add, iI_sub, iI_mul, iI_neg, iL_add, iL_sub, iL_mul, iL_neg, iI_lt, iI_le, iI_eq, iL_lt, iL_le, iL_eqS, iI_c, iI_ok, iI_l, iL_i, iI_low, l_ushrI, l_shlI, l_shrI, i_shlI, i_shrI, i_ushrI, iI_div, iL_div, Int.toNat_natCast, Int.reduceToNat, iI_ofNat]; omega), if_neg (show ¬ (1 : Int32) = 0 from by decide), e, Option.bind_some, keep0 htl (by omega), Option.bind_some, if_neg (show ¬ (1 : Int32) = 0 from by decide)]
  dsimp only
  rw [e1, Option.bind_some, if_pos a1, a2, e2, Option.bind_some]
  dsimp only
  rw [if_pos rfl, e3, Option.bind_some]
  simp only [if_pos hok]
  rw [iI_c (by omega) (by omega), Int.toNat_natCast]
  simp only [if_true]
  by_cases z : epr = 0
  · rw [if_pos z, if_pos z, Option.bind_some]
    exact ⟨l, o, c, _, _, ic', _, _, _, _, _, rfl, b, hM⟩
  · rw [if_neg z, if_neg z, Option.bind_some]
    exact ⟨l, o, c, _, _, ic', _, _, _, _, _, rfl, b, hM⟩
set_option maxRecDepth 10000 in
theorem ntcompile_no1 {nT : Nat} (hnT : nT < 1000000) {tl to : Int32} {tc : Nat → Int32} {X : List Int32} (hT : BY nT tl to tc X) (hX : X.length ≤ nT) {stl sto : Int32} {stc : Nat → Int32} {S : List Int32} (hS : BY 1000 stl sto stc S) (sat sdr plc : Int32) (wc ic pc cc fl pl ac : Nat → Int32) (epr edr cnt spr : Int32) {f : Int} (f0 : -2147483648 ≤ f) (f1 : f < 2147483648) (hf : f < 0 ∨ 8 ≤ f) (sel : Nat) :
    t_Nt_compile (iI f) 1000 nT tl stl sat stc sdr wc ic pc cc fl plc pl sel epr edr cnt tc sto to ac spr = some (1, tl, stl, sat, stc, sdr, wc, ic, pc, cc, fl, plc, pl, cnt, sto, to, ac, spr) := by
  unfold t_Nt_compile
  by_cases q : f < 0
  · rw [if_pos (show iI f < 0 from by simp (disch := omega) only [iI_lit, iL_lit, iI_add, iI_sub, iI_mul, iI_neg, iL_add, iL_sub, iL_mul, iL_neg, iI_lt, iI_le, iI_eq, iL_lt, iL_le, iL_eqS, iI_c, iI_ok, iI_l, iL_i, iI_low, l_ushrI, l_shlI, l_shrI, i_shlI, i_shrI, i_ushrI, iI_div, iL_div, Int.toNat_natCast, Int.reduceToNat, iI_ofNat]; omega)]
  · rw [if_neg (show ¬ iI f < 0 from by simp (disch := omega) only [iI_lit, iL_lit, iI_add, iI_sub, iI_mul, iI_neg, iL_add, iL_sub, iL_mul, iL_neg, iI_lt, iI_le, iI_eq, iL_lt, iL_le, iL_eqS, iI_c, iI_ok, iI_l, iL_i, iI_low, l_ushrI, l_shlI, l_shrI, i_shlI, i_shrI, i_ushrI, iI_div, iL_div, Int.toNat_natCast, Int.reduceToNat, iI_ofNat]; omega), if_neg (show ¬ iI f < 8 from by simp (disch := omega) only [iI_lit, iL_lit, iI_add, iI_sub, iI_mul, iI_neg, iL_add, iL_sub, iL_mul, iL_neg, iI_lt, iI_le, iI_eq, iL_lt, iL_le, iL_eqS, iI_c, iI_ok, iI_l, iL_i, iI_low, l_ushrI, l_shlI, l_shrI, i_shlI, i_shrI, i_ushrI, iI_div, iL_div, Int.toNat_natCast, Int.reduceToNat, iI_ofNat]; omega)]
set_option maxRecDepth 10000 in
theorem ntcompile_no0 {nT : Nat} (hnT : nT < 1000000) {tl to : Int32} {tc : Nat → Int32} {X : List Int32} (hT : BY nT tl to tc X) (hX : X.length ≤ nT) {stl sto : Int32} {stc : Nat → Int32} {S : List Int32} (hS : BY 1000 stl sto stc S) (sat sdr plc : Int32) (wc ic pc cc fl pl ac : Nat → Int32) (epr edr cnt spr : Int32) {f : Nat} (hf : f < 8) (hl : 1000 < X.length) (sel : Nat) :
    t_Nt_compile (iI f) 1000 nT tl stl sat stc sdr wc ic pc cc fl plc pl sel epr edr cnt tc sto to ac spr = some (0, iI 0, stl, sat, stc, sdr, wc, ic, pc, cc, fl, -1, pl, cnt, sto, iI 0, ac, spr) := by
  have htl := tape_len hnT hT hX hS
  unfold t_Nt_compile t_Nt_compile_43 t_Nt_compile_62
  rw [if_neg (show ¬ iI (f : Int) < 0 from by simp (disch := omega) only [iI_lit, iL_lit, iI_add, iI_sub, iI_mul, iI_neg, iL_add, iL_sub, iL_mul, iL_neg, iI_lt, iI_le, iI_eq, iL_lt, iL_le, iL_eqS, iI_c, iI_ok, iI_l, iL_i, iI_low, l_ushrI, l_shlI, l_shrI, i_shlI, i_shrI, i_ushrI, iI_div, iL_div, Int.toNat_natCast, Int.reduceToNat, iI_ofNat]; omega), if_pos (show iI (f : Int) < 8 from by simp (disch := omega) only [iI_lit, iL_lit, iI_add, iI_sub, iI_mul, iI_neg, iL_add, iL_sub, iL_mul, iL_neg, iI_lt, iI_le, iI_eq, iL_lt, iL_le, iL_eqS, iI_c, iI_ok, iI_l, iL_i, iI_low, l_ushrI, l_shlI, l_shrI, i_shlI, i_shrI, i_ushrI, iI_div, iL_div, Int.toNat_natCast, Int.reduceToNat, iI_ofNat]; omega), if_pos (show (1000 : Int32) < tl from by rw [htl]; simp (disch := omega) only [iI_lit, iL_lit, iI_add, iI_sub, iI_mul, iI_neg, iL_add, iL_sub, iL_mul, iL_neg, iI_lt, iI_le, iI_eq, iL_lt, iL_le, iL_eqS, iI_c, iI_ok, iI_l, iL_i, iI_low, l_ushrI, l_shlI, l_shrI, i_shlI, i_shrI, i_ushrI, iI_div, iL_div, Int.toNat_natCast, Int.reduceToNat, iI_ofNat]; omega), if_pos rfl, keep0 htl (by omega), Option.bind_some, if_pos rfl]
set_option maxRecDepth 10000 in
theorem ntcompile_no2 {nT : Nat} (hnT : nT < 1000000) {tl to : Int32} {tc : Nat → Int32} {X : List Int32} (hT : BY nT tl to tc X) (hX : X.length ≤ nT) {stl sto : Int32} {stc : Nat → Int32} {S : List Int32} (hS : BY 1000 stl sto stc S) (sat sdr plc : Int32) (wc ic pc cc fl pl ac : Nat → Int32) (epr edr cnt spr : Int32) {f : Nat} (hf : f < 8) (hl : X.length ≤ 1000) {k : Nat} (hk : (dirL X).2 = some k) (sel : Nat) :
    ∃ l o c at' sdr' wc' ic' pc' cc' fl' pl' ac', t_Nt_compile (iI f) 1000 nT tl stl sat stc sdr wc ic pc cc fl plc pl sel epr edr cnt tc sto to ac spr = some (2, iI 0, l, at', c, sdr', wc', ic', pc', cc', fl', iI k, pl', cnt, o, iI 0, ac', spr) ∧ BY 1000 l o c X := by
  have htl := tape_len hnT hT hX hS
  obtain ⟨l, o, c, e, b⟩ := spare_copy hnT hT hX hS hl
  obtain ⟨q, e1, h1, _⟩ := firstWrong_spec b hl sat sdr wc ic pc cc fl pl ac
  have a1 := h1 k hk
  have hkb : k < 100000 := by
    have : ∀ d p j, p ≤ X.length → (dirs X d p).2 = some j → j < X.length := by
      intro d
      induction d with
      | zero => intro p j _ h; simp [dirs] at h
      | succ d ih =>
        intro p j hp h
        unfold dirs at h
        split at h
        · rename_i z
          split at h
          · rename_i z2
            have := DOK_in z2
            exact ih _ _ (by omega) h
          · simp at h; omega
        · simp at h
    have := this _ _ _ (by omega) hk
    omega
  unfold t_Nt_compile t_Nt_compile_43 t_Nt_compile_62
  rw [if_neg (show ¬ iI (f : Int) < 0 from by simp (disch := omega) only [iI_lit, iL_lit, iI_add, iI_sub, iI_mul, iI_neg, iL_add, iL_sub, iL_mul, iL_neg, iI_lt, iI_le, iI_eq, iL_lt, iL_le, iL_eqS, iI_c, iI_ok, iI_l, iL_i, iI_low, l_ushrI, l_shlI, l_shrI, i_shlI, i_shrI, i_ushrI, iI_div, iL_div, Int.toNat_natCast, Int.reduceToNat, iI_ofNat]; omega), if_pos (show iI (f : Int) < 8 from by simp (disch := omega) only [iI_lit, iL_lit, iI_add, iI_sub, iI_mul, iI_neg, iL_add, iL_sub, iL_mul, iL_neg, iI_lt, iI_le, iI_eq, iL_lt, iL_le, iL_eqS, iI_c, iI_ok, iI_l, iL_i, iI_low, l_ushrI, l_shlI, l_shrI, i_shlI, i_shrI, i_ushrI, iI_div, iL_div, Int.toNat_natCast, Int.reduceToNat, iI_ofNat]; omega), if_neg (show ¬ (1000 : Int32) < tl from by rw [htl]; simp (disch := omega) only [iI_lit, iL_lit, iI_add, iI_sub, iI_mul, iI_neg, iL_add, iL_sub, iL_mul, iL_neg, iI_lt, iI_le, iI_eq, iL_lt, iL_le, iL_eqS, iI_c, iI_ok, iI_l, iL_i, iI_low, l_ushrI, l_shlI, l_shrI, i_shlI, i_shrI, i_ushrI, iI_div, iL_div, Int.toNat_natCast, Int.reduceToNat, iI_ofNat]; omega), if_neg (show ¬ (1 : Int32) = 0 from by decide), e, Option.bind_some, keep0 htl (by omega), Option.bind_some, if_neg (show ¬ (1 : Int32) = 0 from by decide)]
  dsimp only
  rw [e1, Option.bind_some, a1, if_neg (show ¬ iI (k : Int) = -1 from by rw [show (-1 : Int32) = iI (-1) from rfl, iI_eq (by omega) (by omega) (by omega) (by omega)]; omega)]
  exact ⟨l, o, c, _, _, _, _, _, _, _, _, _, rfl, b⟩
set_option maxRecDepth 10000 in
theorem ntcompile_no3 {nT : Nat} (hnT : nT < 1000000) {tl to : Int32} {tc : Nat → Int32} {X : List Int32} (hT : BY nT tl to tc X) (hX : X.length ≤ nT) {stl sto : Int32} {stc : Nat → Int32} {S : List Int32} (hS : BY 1000 stl sto stc S) (sat sdr plc : Int32) (wc ic pc cc fl pl ac : Nat → Int32) (epr edr cnt spr : Int32) {f : Nat} (hf : f < 8) (hl : X.length ≤ 1000) (hw : (dirL X).2 = none) {k : Nat} (hk : fB X (dirL X).1 = some k) (sel : Nat) :
    ∃ l o c at' sdr' wc' ic' pc' cc' fl' pl' ac', t_Nt_compile (iI f) 1000 nT tl stl sat stc sdr wc ic pc cc fl plc pl sel epr edr cnt tc sto to ac spr = some (3, iI 0, l, at', c, sdr', wc', ic', pc', cc', fl', iI k, pl', cnt, o, iI 0, ac', spr) ∧ BY 1000 l o c X := by
  have htl := tape_len hnT hT hX hS
  obtain ⟨l, o, c, e, b⟩ := spare_copy hnT hT hX hS hl
  obtain ⟨q, e1, _, h2⟩ := firstWrong_spec b hl sat sdr wc ic pc cc fl pl ac
  obtain ⟨a1, a2, a3⟩ := h2 hw
  have hG' : GOODL X (dirL X).1 := dirs_good X (X.length + 1) 0
  have e2 := firstBarred_spec a3 hG' (dirL_b hl)
  rw [hk] at e2
  have hkb : k < 100000 := by
    have : ∀ L, fB X L = some k → k ∈ L := by
      intro L
      induction L with
      | nil => intro h; simp [fB] at h
      | cons a t ih =>
        intro h
        unfold fB at h
        split at h
        · simp at h; rw [h]; exact List.mem_cons_self
        · exact List.mem_cons_of_mem _ (ih h)
    have := (hG' k (this _ hk)).1
    omega
  unfold t_Nt_compile t_Nt_compile_43 t_Nt_compile_62
  rw [if_neg (show ¬ iI (f : Int) < 0 from by simp (disch := omega) only [iI_lit, iL_lit, iI_add, iI_sub, iI_mul, iI_neg, iL_add, iL_sub, iL_mul, iL_neg, iI_lt, iI_le, iI_eq, iL_lt, iL_le, iL_eqS, iI_c, iI_ok, iI_l, iL_i, iI_low, l_ushrI, l_shlI, l_shrI, i_shlI, i_shrI, i_ushrI, iI_div, iL_div, Int.toNat_natCast, Int.reduceToNat, iI_ofNat]; omega), if_pos (show iI (f : Int) < 8 from by simp (disch := omega) only [iI_lit, iL_lit, iI_add, iI_sub, iI_mul, iI_neg, iL_add, iL_sub, iL_mul, iL_neg, iI_lt, iI_le, iI_eq, iL_lt, iL_le, iL_eqS, iI_c, iI_ok, iI_l, iL_i, iI_low, l_ushrI, l_shlI, l_shrI, i_shlI, i_shrI, i_ushrI, iI_div, iL_div, Int.toNat_natCast, Int.reduceToNat, iI_ofNat]; omega), if_neg (show ¬ (1000 : Int32) < tl from by rw [htl]; simp (disch := omega) only [iI_lit, iL_lit, iI_add, iI_sub, iI_mul, iI_neg, iL_add, iL_sub, iL_mul, iL_neg, iI_lt, iI_le, iI_eq, iL_lt, iL_le, iL_eqS, iI_c, iI_ok, iI_l, iL_i, iI_low, l_ushrI, l_shlI, l_shrI, i_shlI, i_shrI, i_ushrI, iI_div, iL_div, Int.toNat_natCast, Int.reduceToNat, iI_ofNat]; omega), if_neg (show ¬ (1 : Int32) = 0 from by decide), e, Option.bind_some, keep0 htl (by omega), Option.bind_some, if_neg (show ¬ (1 : Int32) = 0 from by decide)]
  dsimp only
  rw [e1, Option.bind_some, if_pos a1, a2, e2, Option.bind_some]
  dsimp only
  rw [if_neg (show ¬ iI (k : Int) = -1 from by rw [show (-1 : Int32) = iI (-1) from rfl, iI_eq (by omega) (by omega) (by omega) (by omega)]; omega)]
  exact ⟨l, o, c, _, _, _, _, _, _, _, _, _, rfl, b⟩
