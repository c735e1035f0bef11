-- UO
set_option maxRecDepth 10000 in
abbrev T43 := Int32 × Int32 × Int32 × Int32 × Int32 × Int32 × Int32 × Int32 × Int32 × (Nat → Int32) × Int32 × Int32 × Int32 × Int32 × Int64 × Int32 × Int32 × Int32 × (Nat → Int32) × Int32 × (Nat → Int32) × Nat × Int32 × (Nat → Int32) × Int32 × (Nat → Int32) × Int32 × Int32 × (Nat → Int32) × Int32 × (Nat → Int32) × Int32 × Int32 × (Nat → Int32) × Int32 × Int32 × Int32 × (Nat → Int32) × Int32 × (Nat → Int32) × (Nat → Int32) × Int32 × (Nat → Int32)
set_option maxRecDepth 10000 in
def WDR (o : Int32) (E : List Int32) (r : T43) : Prop := r.1 = o ∧ LN r.2.2.2.1 ∧ LN r.2.2.2.2.1 ∧ BY 32768 r.2.2.2.2.2.2.2.2.2.2.2.2.2.2.2.2.2.2.2.2.2.2.2.2.2.2.2.2.2.2.2.2.2.2.1 r.2.2.2.2.2.2.2.2.2.2.2.2.2.2.2.2.2.2.2.2.2.2.2.2.2.2.2.2.2.2.2.2.2.2.2.1 r.2.2.2.2.2.2.2.2.2.2.2.2.2.2.2.2.2.2.2.2.2.2.2.2.2.2.2.2.2.2.2.2.2.2.2.2.2.2.2.2.2.2 E
set_option maxRecDepth 10000 in
def ovC (E : List Int32) : Int32 := if 32768 < E.length then 3 else 0
set_option maxRecDepth 10000 in
theorem wd278 {w : Int} (hw0 : -1 ≤ w) (hw1 : w ≤ 9999) {hl ho bl bo : Int32} {hc bc : Nat → Int32} {H B : List Int32} (hH : BY 4 hl ho hc H) (hHl : H.length ≤ 4) (hB : BY 10600 bl bo bc B) (hBl : B.length ≤ 10600) (cl fl up zr : Int32) {rln rov : Int32} {rrc : Nat → Int32} {E : List Int32} (hE : BY 32768 rln rov rrc E) (le pr : Int) (fcv ffl fwd fpr fix : Nat → Int32) (asz : Int32) (kc : Nat → Int32) (vc : Nat → Int64) (tl tv : Nat → Int32) (tc : Nat → Nat → Int32) (na ng inf q0 op vs us ws ts es ep rs ds dp ns : Int32) (c0 : Int64) (si : Nat) (vl ul wl tl_ ed rl dd nl ch : Nat → Int32) :
    ∃ r : T43, f_Pr_writeDirective_278 4 10600 32768 fcv ffl fwd fpr up fl hl bl fix (iI le) asz kc vc cl ds dp dd (iI pr) na ng inf c0 q0 op vs vl us ul si ws wl ts tl_ es ep ed rs rl bo (iI w) hc rln rov zr bc ns nl ch ho rrc tl tv tc = some r ∧ WDR (ovC (E ++ layT w H B (cl ≠ 0) (up ≠ 0) (zr ≠ 0) (fl &&& 1 ≠ 0))) (E ++ layT w H B (cl ≠ 0) (up ≠ 0) (zr ≠ 0) (fl &&& 1 ≠ 0)) r := by
  unfold f_Pr_writeDirective_278
  obtain ⟨l, o, c, e, b⟩ := lay_spec (n := 32768) (by omega) (by omega) (by omega) hw0 hw1 hH hHl hB hBl cl fl up zr hE
  rw [e, Option.bind_some]
  dsimp only
  unfold ovC
  have ho_ := b.2.1
  by_cases q : 32768 < (E ++ layT w H B (cl ≠ 0) (up ≠ 0) (zr ≠ 0) (fl &&& 1 ≠ 0)).length
  · rw [if_pos q] at ho_ ⊢
    rw [if_neg (show ¬ o = 0 from by rw [ho_]; decide)]
    exact ⟨_, rfl, rfl, LN_BY (by omega) hH, LN_BY (by omega) hB, b⟩
  · rw [if_neg q] at ho_ ⊢
    rw [if_pos (show o = 0 from by rw [ho_]; rfl)]
    exact ⟨_, rfl, rfl, LN_BY (by omega) hH, LN_BY (by omega) hB, b⟩
set_option maxRecDepth 10000 in
theorem wd151 {cv k v u : Int} (hp : inW 63 cv ∨ k = 0) (hcv : CVA cv) (hfit : FITC cv k v) (hk0 : 0 ≤ k) (hk7 : k ≤ 7) (hk1 : k = 1 → v = 0 ∨ v = 1) (hv0 : -9223372036854775808 ≤ v) (hv1 : v < 9223372036854775808) (hu0 : 0 ≤ u) (hu1 : u < 18446744073709551616) (hvu : iL v = iL u) {pr : Int} (p0 : -1 ≤ pr) (p1 : pr ≤ 9999) {w : Int} (hw0 : -1 ≤ w) (hw1 : w ≤ 9999) {fl : Int32} {fc : Nat → Int32} (hF : FLG fl fc) (hA : ADM cv fc) {kc : Nat → Int32} {vc : Nat → Int64} {tl tv : Nat → Int32} {tc : Nat → Nat → Int32} {a : Nat} (ha : a < 16) (hka : kc a = iI k) (hva : k ≠ 7 → vc a = iL v) {X : List Int32} (hX : k = 7 → BY 200 (tl a) (tv a) (tc a) X ∧ X.length ≤ 200) {Q : List Int32} (hQ : DQ cv k v u X pr w fc Q) {hl ho bl bo : Int32} {hc bc : Nat → Int32} (hH : BY 4 hl ho hc []) (hB : BY 10600 bl bo bc []) {rln rov : Int32} {rrc : Nat → Int32} {E : List Int32} (hE : BY 32768 rln rov rrc E) (fcv ffl fwd fpr fix : Nat → Int32) (asz : Int32) (na ng inf q0 op vs us ws ts es ep rs ds dp ns : Int32) (c0 : Int64) (si : Nat) (vl ul wl tl_ ed rl dd nl ch : Nat → Int32) :
    ∃ r : T43, f_Pr_writeDirective_151 (iI a) 4 10600 32768 fcv ffl fwd fpr (iI (upV cv)) fl hl bl fix (iI (leV cv)) asz kc vc 0 ds dp dd (iI pr) na ng inf c0 q0 op vs vl us ul si ws wl ts tl_ es ep ed rs rl bo (iI w) hc rln rov (if fl &&& 16 = 0 then 0 else 1) bc ns nl ch ho rrc tl tv tc = some r ∧ WDR (ovC (E ++ Q)) (E ++ Q) r := by
  obtain ⟨b0, b1⟩ := leV_b hcv
  obtain ⟨a1, a2, a3, a4, a5⟩ := inW_le hcv
  unfold DQ at hQ
  rw [if_pos hp] at hQ
  obtain ⟨T, hT, hQe⟩ := hQ
  have hT' : TLD (leV cv = 98) k v u X T := by
    unfold TLD at hT ⊢
    simp only [a5] at hT
    exact hT
  unfold f_Pr_writeDirective_151
  obtain ⟨r, e, H', B', t, h1, h2, y1, y2, y3, y4⟩ := fplain_spec p0 p1 b0 b1 hk0 hk7 hk1 hv0 hv1 hu0 hu1 hvu (fl := fl) (by intro hk; have := hA.s (by rcases hp with y | y; exact y; exact absurd y hk); exact ⟨hF.f6.mpr this.1, hF.f2.mpr this.2.1, hF.f3.mpr this.2.2.1, hF.f5.mpr this.2.2.2⟩) ha hka hva hX hT' hH hB (if fl &&& 16 = 0 then 0 else 1) na ng inf q0 op vs us ws ts es ep rs ds dp c0 si vl ul wl tl_ ed rl dd
  rw [e, Option.bind_some]
  rw [y3, y4]
  have hQ2 : Q = layT w H' B' ((0 : Int32) ≠ 0) (iI (upV cv) ≠ 0) ((0 : Int32) ≠ 0) (fl &&& 1 ≠ 0) := by
    rw [hQe, ← t, layP_HB, upE_layT]
    exact layT_iff ⟨fun y => y.elim, fun y => absurd rfl y⟩ (upV_73 hcv) ⟨fun y => y.elim, fun y => absurd rfl y⟩ (not_congr hF.f0).symm
  rw [hQ2]
  exact wd278 hw0 hw1 y1 h1 y2 h2 0 fl (iI (upV cv)) 0 hE (leV cv) pr fcv ffl fwd fpr fix asz kc vc tl tv tc _ _ _ _ _ _ _ _ _ _ _ _ _ _ _ _ _ _ _ _ _ _ _ _ _ _
set_option maxRecDepth 10000 in
theorem wd168 {cv k v u : Int} (hp : ¬ (inW 63 cv ∨ k = 0)) (hc64 : inW 64 cv) (hcv : CVA cv) (hfit : FITC cv k v) (hk0 : 0 ≤ k) (hk7 : k ≤ 7) (hk1 : k = 1 → v = 0 ∨ v = 1) (hv0 : -9223372036854775808 ≤ v) (hv1 : v < 9223372036854775808) (hu0 : 0 ≤ u) (hu1 : u < 18446744073709551616) (hvu : iL v = iL u) {pr : Int} (p0 : -1 ≤ pr) (p1 : pr ≤ 9999) {w : Int} (hw0 : -1 ≤ w) (hw1 : w ≤ 9999) {fl : Int32} {fc : Nat → Int32} (hF : FLG fl fc) (hA : ADM cv fc) {kc : Nat → Int32} {vc : Nat → Int64} {tl tv : Nat → Int32} {tc : Nat → Nat → Int32} {a : Nat} (ha : a < 16) (hka : kc a = iI k) (hva : k ≠ 7 → vc a = iL v) {X : List Int32} (hX : k = 7 → BY 200 (tl a) (tv a) (tc a) X ∧ X.length ≤ 200) {Q : List Int32} (hQ : DQ cv k v u X pr w fc Q) {hl ho bl bo : Int32} {hc bc : Nat → Int32} (hH : BY 4 hl ho hc []) (hB : BY 10600 bl bo bc []) {rln rov : Int32} {rrc : Nat → Int32} {E : List Int32} (hE : BY 32768 rln rov rrc E) (fcv ffl fwd fpr fix : Nat → Int32) (asz : Int32) (na ng inf q0 op vs us ws ts es ep rs ds dp ns : Int32) (c0 : Int64) (si : Nat) (vl ul wl tl_ ed rl dd nl ch : Nat → Int32) :
    ∃ r : T43, f_Pr_writeDirective_168 (iI a) 4 10600 32768 fcv ffl fwd fpr (iI (upV cv)) fl hl bl fix (iI (leV cv)) asz kc vc 0 ds dp dd (iI pr) na ng inf c0 q0 op vs vl us ul si ws wl ts tl_ es ep ed rs rl bo (iI w) hc rln rov (if fl &&& 16 = 0 then 0 else 1) bc ns nl ch ho rrc tl tv tc = some r ∧ WDR (ovC (E ++ Q)) (E ++ Q) r := by
  have hok : gx_ok (iI (a : Int)) 16 = true := by simp (disch := omega) only [iI_lit, iL_lit, iI_add, iI_sub, iI_mul, iI_neg, iL_add, iL_sub, iL_mul, iL_neg, iI_lt, iI_le, iI_eq, iL_lt, iL_le, iL_eqS, iI_c, iI_ok, iI_l, iL_i, iI_low, l_ushrI, l_shlI, l_shrI, i_shlI, i_shrI, i_ushrI, iI_div, iL_div, Int.toNat_natCast, Int.reduceToNat, iI_ofNat]; omega
  obtain ⟨a1, a2, a3, a4, a5⟩ := inW_le hcv
  unfold DQ at hQ
  rw [if_neg hp, if_pos hc64] at hQ
  unfold f_Pr_writeDirective_168
  have hk7' : k ≠ 7 := by
    have := a2.mp hc64
    unfold FITC at hfit
    rw [a1, a2, a3, a4] at hfit
    omega
  rw [if_pos hok, iI_c (by omega) (by omega), Int.toNat_natCast, hva hk7', iL_i]
  obtain ⟨l1, o1, c1, e1, b1⟩ := add_spec (by omega) hB (iI v)
  rw [e1, Option.bind_some]
  rw [List.nil_append] at b1
  have z0 : (if fl &&& 16 = 0 then (0 : Int32) else 1) = 0 := if_pos (hF.f4.mpr (hA.c hc64))
  rw [z0]
  have hQ2 : Q = layT w [] [sb (iI v)] ((0 : Int32) ≠ 0) (iI (upV cv) ≠ 0) ((0 : Int32) ≠ 0) (fl &&& 1 ≠ 0) := by
    rw [hQ, show [sb (iI v)] = [] ++ [sb (iI v)] from rfl, layP_HB, upE_layT]
    exact layT_iff ⟨fun y => y.elim, fun y => absurd rfl y⟩ (upV_73 hcv) ⟨fun y => y.elim, fun y => absurd rfl y⟩ (not_congr hF.f0).symm
  rw [hQ2]
  exact wd278 hw0 hw1 hH (by simp) b1 (by simp) 0 fl (iI (upV cv)) 0 hE (leV cv) pr fcv ffl fwd fpr fix asz kc vc tl tv tc _ _ _ _ _ _ _ _ _ _ _ _ _ _ _ _ _ _ _ _ _ _ _ _ _ _
set_option maxRecDepth 10000 in
theorem zr_iff {fl : Int32} {fc : Nat → Int32} (hF : FLG fl fc) : (¬ fc 4 ≤ 0) ↔ (if fl &&& 16 = 0 then (0 : Int32) else 1) ≠ 0 := by
  have := hF.f4
  by_cases q : fl &&& 16 = 0
  · rw [if_pos q]; exact ⟨fun y => absurd (this.mp q) y, fun y => absurd rfl y⟩
  · rw [if_neg q]; exact ⟨fun _ => by decide, fun _ y => q (this.mpr y)⟩
set_option maxRecDepth 10000 in
theorem wd197 {cv k v u : Int} (hp : ¬ (inW 63 cv ∨ k = 0)) (h64 : ¬ inW 64 cv) (h53 : ¬ inW 53 cv) (h51 : inW 51 cv) (hcv : CVA cv) (hfit : FITC cv k v) (hk0 : 0 ≤ k) (hk7 : k ≤ 7) (hk1 : k = 1 → v = 0 ∨ v = 1) (hv0 : -9223372036854775808 ≤ v) (hv1 : v < 9223372036854775808) (hu0 : 0 ≤ u) (hu1 : u < 18446744073709551616) (hvu : iL v = iL u) {pr : Int} (p0 : -1 ≤ pr) (p1 : pr ≤ 9999) {w : Int} (hw0 : -1 ≤ w) (hw1 : w ≤ 9999) {fl : Int32} {fc : Nat → Int32} (hF : FLG fl fc) (hA : ADM cv fc) {kc : Nat → Int32} {vc : Nat → Int64} {tl tv : Nat → Int32} {tc : Nat → Nat → Int32} {a : Nat} (ha : a < 16) (hka : kc a = iI k) (hva : k ≠ 7 → vc a = iL v) {X : List Int32} (hX : k = 7 → BY 200 (tl a) (tv a) (tc a) X ∧ X.length ≤ 200) {Q : List Int32} (hQ : DQ cv k v u X pr w fc Q) {hl ho bl bo : Int32} {hc bc : Nat → Int32} (hH : BY 4 hl ho hc []) (hB : BY 10600 bl bo bc []) {rln rov : Int32} {rrc : Nat → Int32} {E : List Int32} (hE : BY 32768 rln rov rrc E) (fcv ffl fwd fpr fix : Nat → Int32) (asz : Int32) (na ng inf q0 op vs us ws ts es ep rs ds dp ns : Int32) (c0 : Int64) (si : Nat) (vl ul wl tl_ ed rl dd nl ch : Nat → Int32) :
    ∃ r : T43, f_Pr_writeDirective_197 (iI a) 4 10600 32768 fcv ffl fwd fpr (iI (upV cv)) fl hl bl fix (iI (leV cv)) asz kc vc 0 ds dp dd (iI pr) na ng inf c0 q0 op vs vl us ul si ws wl ts tl_ es ep ed rs rl bo (iI w) hc rln rov (if fl &&& 16 = 0 then 0 else 1) bc ns nl ch ho rrc tl tv tc = some r ∧ WDR (ovC (E ++ Q)) (E ++ Q) r := by
  have hok : gx_ok (iI (a : Int)) 16 = true := by simp (disch := omega) only [iI_lit, iL_lit, iI_add, iI_sub, iI_mul, iI_neg, iL_add, iL_sub, iL_mul, iL_neg, iI_lt, iI_le, iI_eq, iL_lt, iL_le, iL_eqS, iI_c, iI_ok, iI_l, iL_i, iI_low, l_ushrI, l_shlI, l_shrI, i_shlI, i_shrI, i_ushrI, iI_div, iL_div, Int.toNat_natCast, Int.reduceToNat, iI_ofNat]; omega
  obtain ⟨a1, a2, a3, a4, a5⟩ := inW_le hcv
  unfold DQ at hQ
  rw [if_neg hp, if_neg h64, if_neg h53, if_pos h51] at hQ
  unfold f_Pr_writeDirective_197
  have hk7' : k ≠ 7 := by
    have := a4.mp h51
    unfold FITC at hfit
    rw [a1, a2, a3, a4] at hfit
    omega
  rw [if_pos hok, iI_c (by omega) (by omega), Int.toNat_natCast, hva hk7']
  obtain ⟨hl', ho', hc', bl', bo', bc', sz', pt', dc', e, b1, b2⟩ := pwhole_spec (nh := 4) (nb := 10600) (by omega) (by omega) hv0 hv1 fl hH hB ds dp dd
  rw [e, Option.bind_some]
  dsimp only
  rw [List.nil_append] at b1 b2
  have hn : iI (if v < 0 then 1 else 0) = 0 ↔ ¬ v < 0 := by rw [un01]
  have hl1 : (signE (v < 0) fl).length ≤ 4 := by unfold signE; (repeat' split) <;> simp
  have hl2 : (wholeD v (fl &&& 32 ≠ 0)).length ≤ 10600 := by
    have := wholeE_len (digF v.natAbs) ((nd1 v.natAbs : Nat) : Int) (fl &&& 32 ≠ 0)
    have h20 := spl_20 hv0 hv1
    rw [spl_len] at h20
    have e : wholeD v (fl &&& 32 ≠ 0) = wholeE (digF v.natAbs) ((nd1 v.natAbs : Nat) : Int) (fl &&& 32 ≠ 0) := rfl
    rw [e]; omega
  have ew : wholeD v (¬ fc 5 ≤ 0) = wholeD v (fl &&& 32 ≠ 0) := by unfold wholeD; congr 1; exact propext (not_congr hF.f5).symm
  have hQ2 : Q = layT w (signE (v < 0) fl) (wholeD v (fl &&& 32 ≠ 0)) (closE (v < 0) fl ≠ 0) (iI (upV cv) ≠ 0) ((if fl &&& 16 = 0 then (0 : Int32) else 1) ≠ 0) (fl &&& 1 ≠ 0) := by
    rw [hQ, upE_layT, sgM_C hn rfl hF, ew]
    exact layT_iff (rdM_C hn hF).symm (upV_73 hcv) (zr_iff hF) (not_congr hF.f0).symm
  rw [hQ2]
  exact wd278 hw0 hw1 b1 hl1 b2 hl2 _ fl (iI (upV cv)) _ hE (leV cv) pr fcv ffl fwd fpr fix asz kc vc tl tv tc _ _ _ _ _ _ _ _ _ _ _ _ _ _ _ _ _ _ _ _ _ _ _ _ _ _
set_option maxRecDepth 10000 in
theorem wd231 {cv k v u : Int} (hp : ¬ (inW 63 cv ∨ k = 0)) (h64 : ¬ inW 64 cv) (h53 : inW 53 cv) (hcv : CVA cv) (hfit : FITC cv k v) (hk0 : 0 ≤ k) (hk7 : k ≤ 7) (hk1 : k = 1 → v = 0 ∨ v = 1) (hv0 : -9223372036854775808 ≤ v) (hv1 : v < 9223372036854775808) (hu0 : 0 ≤ u) (hu1 : u < 18446744073709551616) (hvu : iL v = iL u) {pr : Int} (p0 : -1 ≤ pr) (p1 : pr ≤ 9999) {w : Int} (hw0 : -1 ≤ w) (hw1 : w ≤ 9999) {fl : Int32} {fc : Nat → Int32} (hF : FLG fl fc) (hA : ADM cv fc) {kc : Nat → Int32} {vc : Nat → Int64} {tl tv : Nat → Int32} {tc : Nat → Nat → Int32} {a : Nat} (ha : a < 16) (hka : kc a = iI k) (hva : k ≠ 7 → vc a = iL v) {X : List Int32} (hX : k = 7 → BY 200 (tl a) (tv a) (tc a) X ∧ X.length ≤ 200) {Q : List Int32} (hQ : DQ cv k v u X pr w fc Q) {hl ho bl bo : Int32} {hc bc : Nat → Int32} (hH : BY 4 hl ho hc []) (hB : BY 10600 bl bo bc []) {rln rov : Int32} {rrc : Nat → Int32} {E : List Int32} (hE : BY 32768 rln rov rrc E) (fcv ffl fwd fpr fix : Nat → Int32) (asz : Int32) (na ng inf q0 op vs us ws ts es ep rs ds dp ns : Int32) (c0 : Int64) (si : Nat) (vl ul wl tl_ ed rl dd nl ch : Nat → Int32) :
    ∃ r : T43, f_Pr_writeDirective_231 (iI a) 4 10600 32768 fcv ffl fwd fpr (iI (upV cv)) fl hl bl fix (iI (leV cv)) asz kc vc 0 ds dp dd (iI pr) na ng inf c0 q0 op vs vl us ul si ws wl ts tl_ es ep ed rs rl bo (iI w) hc rln rov (if fl &&& 16 = 0 then 0 else 1) bc ns nl ch ho rrc tl tv tc = some r ∧ WDR (ovC (E ++ Q)) (E ++ Q) r := by
  have hok : gx_ok (iI (a : Int)) 16 = true := by simp (disch := omega) only [iI_lit, iL_lit, iI_add, iI_sub, iI_mul, iI_neg, iL_add, iL_sub, iL_mul, iL_neg, iI_lt, iI_le, iI_eq, iL_lt, iL_le, iL_eqS, iI_c, iI_ok, iI_l, iL_i, iI_low, l_ushrI, l_shlI, l_shrI, i_shlI, i_shrI, i_ushrI, iI_div, iL_div, Int.toNat_natCast, Int.reduceToNat, iI_ofNat]; omega
  obtain ⟨a1, a2, a3, a4, a5⟩ := inW_le hcv
  unfold DQ at hQ
  rw [if_neg hp, if_neg h64, if_pos h53] at hQ
  obtain ⟨d, hR, hQ⟩ := hQ
  unfold f_Pr_writeDirective_231
  have hle := a3.mp h53
  have hk34 : k = 3 ∨ k = 4 := by
    unfold FITC at hfit
    rw [a1, a2, a3, a4] at hfit
    omega
  simp only [if_pos hok]
  rw [iI_c (by omega) (by omega), Int.toNat_natCast, hva (by omega), hka, hvu]
  obtain ⟨hl', ho', hc', bl', bo', bc', d', e, hR', d22, b1, b2⟩ := fbits_spec (nh := 4) (nb := 10600) (by omega) (by omega) hk34 hu0 hu1 hle fl hH hB
  rw [e, Option.bind_some]
  dsimp only
  rw [List.nil_append] at b1 b2
  have hst : (if leV cv = 120 then 4 else 3) = unS cv := by
    unfold unS
    unfold CVA at hcv
    by_cases q : cv = 111
    · rw [if_pos q, q]; rfl
    · rw [if_neg q, if_pos]
      unfold leV at hle ⊢
      split at hle <;> omega
  rw [hst] at hR' b2
  have := RN_uniq hR hR'
  subst this
  have hun : unP cv fc = unC (leV cv) fl := by
    unfold unP unC
    simp only [hF.f1]
    by_cases q : fc 1 ≤ 0
    · rw [if_pos q, if_pos q]
    · rw [if_neg q, if_neg q]
      have hl : litL 71 = litL 39 ∧ litL 72 = litL 16 := by decide
      unfold CVA at hcv
      by_cases q : cv = 111
      · rw [if_pos q, if_neg (by rw [q]; decide), hl.1]
      · rw [if_neg q, if_pos, hl.2]
        unfold leV at hle ⊢
        split at hle <;> omega
  have hl1 : (unC (leV cv) fl).length ≤ 4 := by
    have hl : (litL 39).length ≤ 4 ∧ (litL 16).length ≤ 4 := by decide
    unfold unC; split; simp; split; exact hl.2; exact hl.1
  have hQ2 : Q = layT w (unC (leV cv) fl) (rdxL (unX k u) (unS cv) d) ((0 : Int32) ≠ 0) (iI (upV cv) ≠ 0) ((if fl &&& 16 = 0 then (0 : Int32) else 1) ≠ 0) (fl &&& 1 ≠ 0) := by
    rw [hQ, upE_layT, hun]
    exact layT_iff ⟨fun y => y.elim, fun y => absurd rfl y⟩ (upV_73 hcv) (zr_iff hF) (not_congr hF.f0).symm
  rw [hQ2]
  exact wd278 hw0 hw1 b1 hl1 b2 (by rw [rdxL_len]; omega) _ fl (iI (upV cv)) _ hE (leV cv) pr fcv ffl fwd fpr fix asz kc vc tl tv tc _ _ _ _ _ _ _ _ _ _ _ _ _ _ _ _ _ _ _ _ _ _ _ _ _ _
-- UP
set_option maxRecDepth 10000 in
theorem flLe_le {cv : Int} (h : CVA cv) (n1 : leV cv ≠ 115) (n2 : leV cv ≠ 98) (n3 : leV cv ≠ 99) (n4 : leV cv ≠ 111) (n5 : leV cv ≠ 120) (n6 : leV cv ≠ 100) : flLe cv = leV cv ∧ (leV cv = 97 ∨ leV cv = 101 ∨ leV cv = 102 ∨ leV cv = 103) := by
  rcases h with rfl | rfl | rfl | rfl | rfl | rfl | rfl | rfl | rfl | rfl | rfl | rfl | rfl | rfl | rfl | rfl | rfl <;> revert n1 n2 n3 n4 n5 n6 <;> decide
set_option maxRecDepth 10000 in
theorem wd256 {cv k v u : Int} (hp : ¬ (inW 63 cv ∨ k = 0)) (h64 : ¬ inW 64 cv) (h53 : ¬ inW 53 cv) (h51 : ¬ inW 51 cv) (hcv : CVA cv) (hfit : FITC cv k v) (hk0 : 0 ≤ k) (hk7 : k ≤ 7) (hk1 : k = 1 → v = 0 ∨ v = 1) (hv0 : -9223372036854775808 ≤ v) (hv1 : v < 9223372036854775808) (hu0 : 0 ≤ u) (hu1 : u < 18446744073709551616) (hvu : iL v = iL u) {pr : Int} (p0 : -1 ≤ pr) (p1 : pr ≤ 9999) {w : Int} (hw0 : -1 ≤ w) (hw1 : w ≤ 9999) {fl : Int32} {fc : Nat → Int32} (hF : FLG fl fc) (hA : ADM cv fc) {kc : Nat → Int32} {vc : Nat → Int64} {tl tv : Nat → Int32} {tc : Nat → Nat → Int32} {a : Nat} (ha : a < 16) (hka : kc a = iI k) (hva : k ≠ 7 → vc a = iL v) {X : List Int32} (hX : k = 7 → BY 200 (tl a) (tv a) (tc a) X ∧ X.length ≤ 200) {Q : List Int32} (hQ : DQ cv k v u X pr w fc Q) {hl ho bl bo : Int32} {hc bc : Nat → Int32} (hH : BY 4 hl ho hc []) (hB : BY 10600 bl bo bc []) {rln rov : Int32} {rrc : Nat → Int32} {E : List Int32} (hE : BY 32768 rln rov rrc E) (fcv ffl fwd fpr fix : Nat → Int32) (asz : Int32) (na ng inf q0 op vs us ws ts es ep rs ds dp ns : Int32) (c0 : Int64) (si : Nat) (vl ul wl tl_ ed rl dd nl ch : Nat → Int32) :
    ∃ r : T43, f_Pr_writeDirective_256 (iI a) 4 10600 32768 fcv ffl fwd fpr (iI (upV cv)) fl hl bl fix (iI (leV cv)) asz kc vc 0 ds dp dd (iI pr) na ng inf c0 q0 op vs vl us ul si ws wl ts tl_ es ep ed rs rl bo (iI w) hc rln rov (if fl &&& 16 = 0 then 0 else 1) bc ns nl ch ho rrc tl tv tc = some r ∧ WDR (ovC (E ++ Q)) (E ++ Q) r := by
  have hok : gx_ok (iI (a : Int)) 16 = true := by simp (disch := omega) only [iI_lit, iL_lit, iI_add, iI_sub, iI_mul, iI_neg, iL_add, iL_sub, iL_mul, iL_neg, iI_lt, iI_le, iI_eq, iL_lt, iL_le, iL_eqS, iI_c, iI_ok, iI_l, iL_i, iI_low, l_ushrI, l_shlI, l_shrI, i_shlI, i_shrI, i_ushrI, iI_div, iL_div, Int.toNat_natCast, Int.reduceToNat, iI_ofNat]; omega
  obtain ⟨a1, a2, a3, a4, a5⟩ := inW_le hcv
  have hle0 := hcv
  unfold DQ at hQ
  rw [if_neg hp, if_neg h64, if_neg h53, if_neg h51] at hQ
  obtain ⟨Q0, hQ0, hQ⟩ := hQ
  unfold f_Pr_writeDirective_256
  have n63 : ¬ (leV cv = 115 ∨ leV cv = 98) := fun y => hp (Or.inl (a1.mpr y))
  rw [a2] at h64
  rw [a3] at h53
  rw [a4] at h51
  have hk56 : k = 5 ∨ k = 6 := by
    unfold FITC at hfit
    rw [a1, a2, a3, a4] at hfit
    omega
  have hlf := flLe_le hcv (fun y => n63 (Or.inl y)) (fun y => n63 (Or.inr y)) h64 (fun y => h53 (Or.inl y)) (fun y => h53 (Or.inr y)) h51
  have hs : (if k = 6 then 0 else 1) < 2 := by split <;> omega
  have hki : (iI k = (5 : Int32)) = ((if k = 6 then 0 else 1) = 1) := by
    rw [show (5 : Int32) = iI 5 from rfl, iI_eq (by omega) (by omega) (by omega) (by omega)]
    exact propext ⟨fun y => by rw [if_neg (by omega)], fun y => by split at y <;> omega⟩
  simp only [if_pos hok]
  rw [iI_c (by omega) (by omega), Int.toNat_natCast, hva (by omega), hka, hvu]
  generalize (if k = 6 then 0 else 1) = s at hQ0 hs hki
  have hsn : (if biN s u = 1 then [] else signE (biS s u ≠ 0) fl) = sgM (iI (biS s u)) (iI (biN s u)) fc := by
    have hb : iI (biS s u) = 0 ↔ ¬ (biS s u ≠ 0) := by
      rcases biS_01 s u with y | y <;> rw [y] <;> decide
    by_cases q : biN s u = 1
    · rw [if_pos q, biS_N q, q]; unfold sgM; rw [if_pos (show iI 0 = 0 from rfl), if_neg (by decide)]
    · rw [if_neg q, sgM_C hb (by rcases biN_01 s u with y | y; rw [y]; rfl; exact absurd y q) hF]
  have hcl : (if biN s u = 1 then 0 else closE (biS s u ≠ 0) fl) ≠ 0 ↔ rdM (iI (biS s u)) fc := by
    have hb : iI (biS s u) = 0 ↔ ¬ (biS s u ≠ 0) := by
      rcases biS_01 s u with y | y <;> rw [y] <;> decide
    by_cases q : biN s u = 1
    · rw [if_pos q, biS_N q]; unfold rdM; exact ⟨fun y => absurd rfl y, fun y => absurd rfl y.1⟩
    · rw [if_neg q]; exact rdM_C hb hF
  have hzr : (¬ fc 4 ≤ 0 ∧ ¬ (biN s u = 1 ∨ biI s u = 1)) ↔ (if biN s u = 1 ∨ biI s u = 1 then 0 else (if fl &&& 16 = 0 then (0 : Int32) else 1)) ≠ 0 := by
    have := zr_iff hF
    by_cases q : biN s u = 1 ∨ biI s u = 1
    · rw [if_pos q]; exact ⟨fun y => absurd q y.2, fun y => absurd rfl y⟩
    · rw [if_neg q]; exact ⟨fun y => this.mp y.1, fun y => ⟨this.mpr y, q⟩⟩
  have hsl : (sgM (iI (biS s u)) (iI (biN s u)) fc).length ≤ 1 := sgM_len _ _ _
  have hox : (oxE s u).length ≤ 2 := by unfold oxE; split <;> simp
  rw [hlf.1] at hQ0
  unfold FQ at hQ0
  by_cases q97 : leV cv = 97
  · rw [if_pos q97] at hQ0
    obtain ⟨T, hT, hQe⟩ := hQ0
    rw [q97]
    obtain ⟨hl', ho', bl', bo', hc', bc', x1, x2, x3, x4, x5, x6, T', e, b1, hT', b2⟩ := ffloatA_spec (nh := 4) (nb := 10600) (by omega) (by omega) hs hki hu0 hu1 p0 p1 fl hH hB na ng inf q0 c0 ns ds dp (if fl &&& 16 = 0 then 0 else 1) nl ch dd si
    have := realA_uniq hT hT'
    subst this
    rw [e, Option.bind_some]
    dsimp only
    rw [List.nil_append, hsn] at b1
    have hQ2 : Q = layT w (sgM (iI (biS s u)) (iI (biN s u)) fc ++ oxE s u) T ((if biN s u = 1 then 0 else closE (biS s u ≠ 0) fl) ≠ 0) (iI (upV cv) ≠ 0) ((if biN s u = 1 ∨ biI s u = 1 then 0 else (if fl &&& 16 = 0 then (0 : Int32) else 1)) ≠ 0) (fl &&& 1 ≠ 0) := by
      rw [hQ, hQe, upE_layT]
      exact layT_iff hcl.symm (upV_73 hcv) hzr (not_congr hF.f0).symm
    rw [hQ2]
    exact wd278 hw0 hw1 b1 (by rw [List.length_append]; omega) b2 (by have := realA_len hT; omega) _ fl (iI (upV cv)) _ hE 97 pr fcv ffl fwd fpr fix asz kc vc tl tv tc _ _ _ _ _ _ _ _ _ _ _ _ _ _ _ _ _ _ _ _ _ _ _ _ _ _
  · rw [if_neg q97] at hQ0
    obtain ⟨hl', ho', bl', bo', hc', bc', x1, x2, x3, x4, x5, x6, e, b1, b2⟩ := ffloat_spec (nh := 4) (nb := 10600) (by omega) (by omega) hs hki hu0 hu1 p0 p1 (a := if pr = -1 then 6 else pr) rfl (le := leV cv) (by omega) fl hH hB na ng inf q0 c0 ns ds dp (if fl &&& 16 = 0 then 0 else 1) nl ch dd si
    rw [e, Option.bind_some]
    dsimp only
    rw [List.nil_append, hsn] at b1
    have er : realT s u (leV cv) (if pr = -1 then 6 else pr) (¬ fc 5 ≤ 0) (¬ fc 1 ≤ 0) = realT s u (leV cv) (if pr = -1 then 6 else pr) (fl &&& 32 ≠ 0) (fl &&& 2 ≠ 0) := by
      congr 1
      · exact propext (not_congr hF.f5).symm
      · exact propext (not_congr hF.f1).symm
    have hQ2 : Q = layT w (sgM (iI (biS s u)) (iI (biN s u)) fc) (realT s u (leV cv) (if pr = -1 then 6 else pr) (fl &&& 32 ≠ 0) (fl &&& 2 ≠ 0)) ((if biN s u = 1 then 0 else closE (biS s u ≠ 0) fl) ≠ 0) (iI (upV cv) ≠ 0) ((if biN s u = 1 ∨ biI s u = 1 then 0 else (if fl &&& 16 = 0 then (0 : Int32) else 1)) ≠ 0) (fl &&& 1 ≠ 0) := by
      rw [hQ, hQ0, upE_layT, er]
      exact layT_iff hcl.symm (upV_73 hcv) hzr (not_congr hF.f0).symm
    rw [hQ2]
    have hrl := realT_len hs hu0 (a := if pr = -1 then 6 else pr) (by split <;> omega) (by split <;> omega) (leV cv) (fl &&& 32 ≠ 0) (fl &&& 2 ≠ 0)
    have hpn : (if pr = -1 then 6 else pr).toNat ≤ 9999 := by split <;> omega
    exact wd278 hw0 hw1 b1 (by omega) b2 (by omega) _ fl (iI (upV cv)) _ hE (leV cv) pr fcv ffl fwd fpr fix asz kc vc tl tv tc _ _ _ _ _ _ _ _ _ _ _ _ _ _ _ _ _ _ _ _ _ _ _ _ _ _
set_option maxRecDepth 10000 in
theorem wd121 {cv k v u : Int} (hcv : CVA cv) (hfit : FITC cv k v) (hk0 : 0 ≤ k) (hk7 : k ≤ 7) (hk1 : k = 1 → v = 0 ∨ v = 1) (hv0 : -9223372036854775808 ≤ v) (hv1 : v < 9223372036854775808) (hu0 : 0 ≤ u) (hu1 : u < 18446744073709551616) (hvu : iL v = iL u) {pr : Int} (p0 : -1 ≤ pr) (p1 : pr ≤ 9999) {w : Int} (hw0 : -1 ≤ w) (hw1 : w ≤ 9999) {fl : Int32} {fc : Nat → Int32} (hF : FLG fl fc) (hA : ADM cv fc) {kc : Nat → Int32} {vc : Nat → Int64} {tl tv : Nat → Int32} {tc : Nat → Nat → Int32} {a : Nat} (ha : a < 16) (hka : kc a = iI k) (hva : k ≠ 7 → vc a = iL v) {X : List Int32} (hX : k = 7 → BY 200 (tl a) (tv a) (tc a) X ∧ X.length ≤ 200) {Q : List Int32} (hQ : DQ cv k v u X pr w fc Q) {hl ho bl bo : Int32} {hc bc : Nat → Int32} (hH : BY 4 hl ho hc []) (hB : BY 10600 bl bo bc []) {rln rov : Int32} {rrc : Nat → Int32} {E : List Int32} (hE : BY 32768 rln rov rrc E) (fcv ffl fwd fpr fix : Nat → Int32) (asz : Int32) (na ng inf q0 op vs us ws ts es ep rs ds dp ns : Int32) (c0 : Int64) (si : Nat) (vl ul wl tl_ ed rl dd nl ch : Nat → Int32) :
    ∃ r : T43, f_Pr_writeDirective_121 (iI a) 4 10600 32768 fcv ffl fwd fpr (iI (upV cv)) fl hl bl fix (iI (leV cv)) asz kc vc 0 ds dp dd (iI pr) na ng inf c0 q0 op vs vl us ul si ws wl ts tl_ es ep ed rs rl bo (iI w) hc rln rov (if fl &&& 16 = 0 then 0 else 1) bc ns nl ch ho rrc tl tv tc = some r ∧ WDR (ovC (E ++ Q)) (E ++ Q) r := by
  have hok : gx_ok (iI (a : Int)) 16 = true := by simp (disch := omega) only [iI_lit, iL_lit, iI_add, iI_sub, iI_mul, iI_neg, iL_add, iL_sub, iL_mul, iL_neg, iI_lt, iI_le, iI_eq, iL_lt, iL_le, iL_eqS, iI_c, iI_ok, iI_l, iL_i, iI_low, l_ushrI, l_shlI, l_shrI, i_shlI, i_shrI, i_ushrI, iI_div, iL_div, Int.toNat_natCast, Int.reduceToNat, iI_ofNat]; omega
  obtain ⟨b0, b1⟩ := leV_b hcv
  obtain ⟨a1, a2, a3, a4, a5⟩ := inW_le hcv
  have r151 := fun hp => wd151 (cv := cv) (k := k) hp hcv hfit hk0 hk7 hk1 hv0 hv1 hu0 hu1 hvu p0 p1 hw0 hw1 hF hA ha hka hva hX hQ hH hB hE fcv ffl fwd fpr fix asz na ng inf q0 op vs us ws ts es ep rs ds dp ns c0 si vl ul wl tl_ ed rl dd nl ch
  have r168 := fun hp h64 => wd168 (cv := cv) (k := k) hp h64 hcv hfit hk0 hk7 hk1 hv0 hv1 hu0 hu1 hvu p0 p1 hw0 hw1 hF hA ha hka hva hX hQ hH hB hE fcv ffl fwd fpr fix asz na ng inf q0 op vs us ws ts es ep rs ds dp ns c0 si vl ul wl tl_ ed rl dd nl ch
  have r197 := fun hp h64 h53 h51 => wd197 (cv := cv) (k := k) hp h64 h53 h51 hcv hfit hk0 hk7 hk1 hv0 hv1 hu0 hu1 hvu p0 p1 hw0 hw1 hF hA ha hka hva hX hQ hH hB hE fcv ffl fwd fpr fix asz na ng inf q0 op vs us ws ts es ep rs ds dp ns c0 si vl ul wl tl_ ed rl dd nl ch
  have r231 := fun hp h64 h53 => wd231 (cv := cv) (k := k) hp h64 h53 hcv hfit hk0 hk7 hk1 hv0 hv1 hu0 hu1 hvu p0 p1 hw0 hw1 hF hA ha hka hva hX hQ hH hB hE fcv ffl fwd fpr fix asz na ng inf q0 op vs us ws ts es ep rs ds dp ns c0 si vl ul wl tl_ ed rl dd nl ch
  have r256 := fun hp h64 h53 h51 => wd256 (cv := cv) (k := k) hp h64 h53 h51 hcv hfit hk0 hk7 hk1 hv0 hv1 hu0 hu1 hvu p0 p1 hw0 hw1 hF hA ha hka hva hX hQ hH hB hE fcv ffl fwd fpr fix asz na ng inf q0 op vs us ws ts es ep rs ds dp ns c0 si vl ul wl tl_ ed rl dd nl ch
  rw [a1] at r151 r168 r197 r231 r256
  rw [a2] at r168 r197 r231 r256
  rw [a3] at r197 r231 r256
  rw [a4] at r197 r256
  unfold f_Pr_writeDirective_121
  rw [if_pos hok, iI_c (by omega) (by omega), Int.toNat_natCast, hka]
  have hkz : (iI k = (0 : Int32)) = (k = 0) := by rw [show (0 : Int32) = iI 0 from rfl, iI_eq (by omega) (by omega) (by omega) (by omega)]
  have hl : ∀ c : Int, 0 ≤ c → c < 128 → (iI (leV cv) = iI c) = (leV cv = c) := fun c a b => by rw [iI_eq (by omega) (by omega) (by omega) (by omega)]
  have l115 : (iI (leV cv) = (115 : Int32)) = (leV cv = 115) := hl 115 (by omega) (by omega)
  have l98 : (iI (leV cv) = (98 : Int32)) = (leV cv = 98) := hl 98 (by omega) (by omega)
  have l99 : (iI (leV cv) = (99 : Int32)) = (leV cv = 99) := hl 99 (by omega) (by omega)
  have l100 : (iI (leV cv) = (100 : Int32)) = (leV cv = 100) := hl 100 (by omega) (by omega)
  have l111 : (iI (leV cv) = (111 : Int32)) = (leV cv = 111) := hl 111 (by omega) (by omega)
  have l120 : (iI (leV cv) = (120 : Int32)) = (leV cv = 120) := hl 120 (by omega) (by omega)
  simp only [hkz, l115, l98, l99, l100, l111, l120]
  by_cases q0 : k = 0
  · rw [if_pos q0]; exact r151 (Or.inr q0)
  rw [if_neg q0]
  by_cases q1 : leV cv = 115
  · rw [if_pos q1]; exact r151 (Or.inl (Or.inl q1))
  rw [if_neg q1]
  by_cases q2 : leV cv = 98
  · rw [if_pos q2]; exact r151 (Or.inl (Or.inr q2))
  rw [if_neg q2]
  have hp : ¬ ((leV cv = 115 ∨ leV cv = 98) ∨ k = 0) := by omega
  by_cases q3 : leV cv = 99
  · rw [if_pos q3]; exact r168 hp q3
  rw [if_neg q3]
  by_cases q4 : leV cv = 100
  · rw [if_pos q4]; exact r197 hp q3 (by omega) q4
  rw [if_neg q4]
  by_cases q5 : leV cv = 111
  · rw [if_pos q5]; exact r231 hp q3 (Or.inl q5)
  rw [if_neg q5]
  by_cases q6 : leV cv = 120
  · rw [if_pos q6]; exact r231 hp q3 (Or.inr q6)
  rw [if_neg q6]
  exact r256 hp q3 (by omega) q4
-- UQ
set_option maxRecDepth 10000 in
theorem wd_eq {i : Nat} (hi : i < 500) {cv : Int} (c0_ : 0 ≤ cv) (c1_ : cv < 128) {fcv ffl fwd fpr fix : Nat → Int32} (h1 : fcv i = iI cv) {fl : Int32} (h2 : ffl i = fl) {w : Int} (h3 : fwd i = iI w) {pr : Int} (h4 : fpr i = iI pr) {hl0 bl0 : Int32} (hh : LN hl0) (hb : LN bl0) (up0 fl0 le0 cl0 pr0 bo0 wd0 zr0 ho0 asz : Int32) (kc : Nat → Int32) (vc : Nat → Int64) (tl tv : Nat → Int32) (tc : Nat → Nat → Int32) (hc bc : Nat → Int32) (rln rov : Int32) (rrc : Nat → Int32) (na ng inf q0 op vs us ws ts es ep rs ds dp ns : Int32) (c0 : Int64) (si : Nat) (vl ul wl tl_ ed rl dd nl ch : Nat → Int32) :
    f_Pr_writeDirective (iI i) 4 10600 32768 fcv ffl fwd fpr up0 fl0 hl0 bl0 fix le0 asz kc vc cl0 ds dp dd pr0 na ng inf c0 q0 op vs vl us ul si ws wl ts tl_ es ep ed rs rl bo0 wd0 hc rln rov zr0 bc ns nl ch ho0 rrc tl tv tc = if leV cv = 110 then f_Pr_writeDirective_44 4 10600 32768 fcv ffl fwd fpr (iI (upV cv)) fl (iI 0) (iI 0) fix (iI (leV cv)) asz kc vc 0 ds dp dd (iI pr) na ng inf c0 q0 op vs vl us ul si ws wl ts tl_ es ep ed rs rl (iI 0) (iI w) hc rln rov (if fl &&& 16 = 0 then 0 else 1) bc ns nl ch (iI 0) rrc tl tv tc else if leV cv = 37 then f_Pr_writeDirective_65 4 10600 32768 fcv ffl fwd fpr (iI (upV cv)) fl (iI 0) (iI 0) fix (iI (leV cv)) asz kc vc 0 ds dp dd (iI pr) na ng inf c0 q0 op vs vl us ul si ws wl ts tl_ es ep ed rs rl (iI 0) (iI w) hc rln rov (if fl &&& 16 = 0 then 0 else 1) bc ns nl ch (iI 0) rrc tl tv tc else f_Pr_writeDirective_77 (fix i) 4 10600 32768 fcv ffl fwd fpr (iI (upV cv)) fl (iI 0) (iI 0) fix (iI (leV cv)) asz kc vc 0 ds dp dd (iI pr) na ng inf c0 q0 op vs vl us ul si ws wl ts tl_ es ep ed rs rl (iI 0) (iI w) hc rln rov (if fl &&& 16 = 0 then 0 else 1) bc ns nl ch (iI 0) rrc tl tv tc := by
  have hok : gx_ok (iI (i : Int)) 500 = true := by simp (disch := omega) only [iI_lit, iL_lit, iI_add, iI_sub, iI_mul, iI_neg, iL_add, iL_sub, iL_mul, iL_neg, iI_lt, iI_le, iI_eq, iL_lt, iL_le, iL_eqS, iI_c, iI_ok, iI_l, iL_i, iI_low, l_ushrI, l_shlI, l_shrI, i_shlI, i_shrI, i_ushrI, iI_div, iL_div, Int.toNat_natCast, Int.reduceToNat, iI_ofNat]; omega
  obtain ⟨kh, hh1, hh2⟩ := hh
  obtain ⟨kb, hb1, hb2⟩ := hb
  unfold f_Pr_writeDirective
  simp only [if_pos hok]
  rw [iI_c (by omega) (by omega), Int.toNat_natCast, h1, h2, h3, h4, start_spec c0_ (by omega) hh1 hh2 hb1 hb2, Option.bind_some]
  dsimp only
  have hle : 0 ≤ leV cv ∧ leV cv < 256 := by unfold leV; split <;> omega
  have l110 : (iI (leV cv) = (110 : Int32)) = (leV cv = 110) := by rw [show (110 : Int32) = iI 110 from rfl, iI_eq (by omega) (by omega) (by omega) (by omega)]
  have l37 : (iI (leV cv) = (37 : Int32)) = (leV cv = 37) := by rw [show (37 : Int32) = iI 37 from rfl, iI_eq (by omega) (by omega) (by omega) (by omega)]
  simp only [l110, l37]
set_option maxRecDepth 10000 in
theorem wd_n {i : Nat} (hi : i < 500) {fcv ffl fwd fpr fix : Nat → Int32} (h1 : fcv i = iI 110) (h2 : ffl i = 0) (h3 : fwd i = iI (-1)) {pr : Int} (h4 : fpr i = iI pr) {hl0 bl0 : Int32} (hh : LN hl0) (hb : LN bl0) (up0 fl0 le0 cl0 pr0 bo0 wd0 zr0 ho0 asz : Int32) (kc : Nat → Int32) (vc : Nat → Int64) (tl tv : Nat → Int32) (tc : Nat → Nat → Int32) (hc bc : Nat → Int32) {rln rov : Int32} {rrc : Nat → Int32} {E : List Int32} (hE : BY 32768 rln rov rrc E) (na ng inf q0 op vs us ws ts es ep rs ds dp ns : Int32) (c0 : Int64) (si : Nat) (vl ul wl tl_ ed rl dd nl ch : Nat → Int32) :
    ∃ r : T43, f_Pr_writeDirective (iI i) 4 10600 32768 fcv ffl fwd fpr up0 fl0 hl0 bl0 fix le0 asz kc vc cl0 ds dp dd pr0 na ng inf c0 q0 op vs vl us ul si ws wl ts tl_ es ep ed rs rl bo0 wd0 hc rln rov zr0 bc ns nl ch ho0 rrc tl tv tc = some r ∧ WDR (ovC (E ++ [iI 10])) (E ++ [iI 10]) r := by
  rw [wd_eq hi (cv := 110) (by omega) (by omega) h1 h2 h3 h4 hh hb up0 fl0 le0 cl0 pr0 bo0 wd0 zr0 ho0 asz kc vc tl tv tc hc bc rln rov rrc na ng inf q0 op vs us ws ts es ep rs ds dp ns c0 si vl ul wl tl_ ed rl dd nl ch]
  rw [if_pos (by decide)]
  unfold f_Pr_writeDirective_44
  obtain ⟨l1, o1, c1, e1, b1⟩ := add_spec (n := 10600) (by omega) (BY_nil 10600 bc) 10
  rw [e1, Option.bind_some]
  have hQ : [iI 10] = layT (-1) [] [iI 10] ((0 : Int32) ≠ 0) (iI (upV 110) ≠ 0) ((if (0 : Int32) &&& 16 = 0 then (0 : Int32) else 1) ≠ 0) ((0 : Int32) &&& 1 ≠ 0) := by decide
  rw [hQ]
  rw [List.nil_append, show sb (10 : Int32) = iI 10 from by decide] at b1
  exact wd278 (w := -1) (by omega) (by omega) (BY_nil 4 hc) (by simp) b1 (by simp) 0 0 (iI (upV 110)) _ hE (leV 110) pr fcv ffl fwd fpr fix asz kc vc tl tv tc na ng inf q0 op vs us ws ts es ep rs ds dp ns c0 si vl ul wl tl_ ed rl dd nl ch
set_option maxRecDepth 10000 in
theorem wd_pct {i : Nat} (hi : i < 500) {fcv ffl fwd fpr fix : Nat → Int32} (h1 : fcv i = iI 37) {fl : Int32} (h2 : ffl i = fl) {w : Int} (hw0 : -1 ≤ w) (hw1 : w ≤ 9999) (h3 : fwd i = iI w) {pr : Int} (h4 : fpr i = iI pr) {fc : Nat → Int32} (hF : FLG fl fc) (hz : fc 4 ≤ 0) {hl0 bl0 : Int32} (hh : LN hl0) (hb : LN bl0) (up0 fl0 le0 cl0 pr0 bo0 wd0 zr0 ho0 asz : Int32) (kc : Nat → Int32) (vc : Nat → Int64) (tl tv : Nat → Int32) (tc : Nat → Nat → Int32) (hc bc : Nat → Int32) {rln rov : Int32} {rrc : Nat → Int32} {E : List Int32} (hE : BY 32768 rln rov rrc E) (na ng inf q0 op vs us ws ts es ep rs ds dp ns : Int32) (c0 : Int64) (si : Nat) (vl ul wl tl_ ed rl dd nl ch : Nat → Int32) :
    ∃ r : T43, f_Pr_writeDirective (iI i) 4 10600 32768 fcv ffl fwd fpr up0 fl0 hl0 bl0 fix le0 asz kc vc cl0 ds dp dd pr0 na ng inf c0 q0 op vs vl us ul si ws wl ts tl_ es ep ed rs rl bo0 wd0 hc rln rov zr0 bc ns nl ch ho0 rrc tl tv tc = some r ∧ WDR (ovC (E ++ layP w [iI 37] (¬ fc 0 ≤ 0))) (E ++ layP w [iI 37] (¬ fc 0 ≤ 0)) r := by
  rw [wd_eq hi (cv := 37) (by omega) (by omega) h1 h2 h3 h4 hh hb up0 fl0 le0 cl0 pr0 bo0 wd0 zr0 ho0 asz kc vc tl tv tc hc bc rln rov rrc na ng inf q0 op vs us ws ts es ep rs ds dp ns c0 si vl ul wl tl_ ed rl dd nl ch]
  rw [if_neg (by decide), if_pos (by decide)]
  unfold f_Pr_writeDirective_65
  obtain ⟨l1, o1, c1, e1, b1⟩ := add_spec (n := 10600) (by omega) (BY_nil 10600 bc) 37
  rw [e1, Option.bind_some]
  have z0 : (if fl &&& 16 = 0 then (0 : Int32) else 1) = 0 := if_pos (hF.f4.mpr hz)
  rw [z0]
  have hQ : layP w [iI 37] (¬ fc 0 ≤ 0) = layT w [] [iI 37] ((0 : Int32) ≠ 0) (iI (upV 37) ≠ 0) ((0 : Int32) ≠ 0) (fl &&& 1 ≠ 0) := by
    rw [show [iI 37] = [] ++ [iI 37] from rfl, layP_HB]
    exact layT_iff ⟨fun y => y.elim, fun y => absurd rfl y⟩ ⟨fun y => y.elim, fun y => absurd (by decide) y⟩ ⟨fun y => y.elim, fun y => absurd rfl y⟩ (not_congr hF.f0).symm
  rw [hQ]
  rw [List.nil_append, show sb (37 : Int32) = iI 37 from by decide] at b1
  exact wd278 hw0 hw1 (BY_nil 4 hc) (by simp) b1 (by simp) 0 fl (iI (upV 37)) 0 hE (leV 37) pr fcv ffl fwd fpr fix asz kc vc tl tv tc na ng inf q0 op vs us ws ts es ep rs ds dp ns c0 si vl ul wl tl_ ed rl dd nl ch
set_option maxRecDepth 10000 in
theorem CVA_le {cv : Int} (h : CVA cv) : leV cv ≠ 110 ∧ leV cv ≠ 37 := by
  rcases h with rfl | rfl | rfl | rfl | rfl | rfl | rfl | rfl | rfl | rfl | rfl | rfl | rfl | rfl | rfl | rfl | rfl <;> decide
set_option maxRecDepth 10000 in
theorem wd_miss {i : Nat} (hi : i < 500) {cv : Int} (hcv : CVA cv) {fcv ffl fwd fpr fix : Nat → Int32} (h1 : fcv i = iI cv) {fl : Int32} (h2 : ffl i = fl) {w : Int} (h3 : fwd i = iI w) {pr : Int} (h4 : fpr i = iI pr) {ix : Int} (x0 : -100000 ≤ ix) (x1 : ix < 100000) (h5 : fix i = iI ix) {n : Nat} (hn : n ≤ 16) (hix : ix < 0 ∨ (n : Int) ≤ ix) {hl0 bl0 : Int32} (hh : LN hl0) (hb : LN bl0) (up0 fl0 le0 cl0 pr0 bo0 wd0 zr0 ho0 : Int32) (kc : Nat → Int32) (vc : Nat → Int64) (tl tv : Nat → Int32) (tc : Nat → Nat → Int32) (hc bc : Nat → Int32) {rln rov : Int32} {rrc : Nat → Int32} {E : List Int32} (hE : BY 32768 rln rov rrc E) (na ng inf q0 op vs us ws ts es ep rs ds dp ns : Int32) (c0 : Int64) (si : Nat) (vl ul wl tl_ ed rl dd nl ch : Nat → Int32) :
    ∃ r : T43, f_Pr_writeDirective (iI i) 4 10600 32768 fcv ffl fwd fpr up0 fl0 hl0 bl0 fix le0 (iI n) kc vc cl0 ds dp dd pr0 na ng inf c0 q0 op vs vl us ul si ws wl ts tl_ es ep ed rs rl bo0 wd0 hc rln rov zr0 bc ns nl ch ho0 rrc tl tv tc = some r ∧ WDR 1 E r := by
  obtain ⟨k0, k1⟩ := CVA_b hcv
  obtain ⟨n1, n2⟩ := CVA_le hcv
  rw [wd_eq hi k0 k1 h1 h2 h3 h4 hh hb up0 fl0 le0 cl0 pr0 bo0 wd0 zr0 ho0 (iI n) kc vc tl tv tc hc bc rln rov rrc na ng inf q0 op vs us ws ts es ep rs ds dp ns c0 si vl ul wl tl_ ed rl dd nl ch]
  rw [if_neg n1, if_neg n2, h5]
  unfold f_Pr_writeDirective_77
  have z : LN (iI 0) := ⟨0, rfl, by omega⟩
  by_cases q : ix < 0
  · rw [if_pos (show iI ix < 0 from by simp (disch := omega) only [iI_lit, iL_lit, iI_add, iI_sub, iI_mul, iI_neg, iL_add, iL_sub, iL_mul, iL_neg, iI_lt, iI_le, iI_eq, iL_lt, iL_le, iL_eqS, iI_c, iI_ok, iI_l, iL_i, iI_low, l_ushrI, l_shlI, l_shrI, i_shlI, i_shrI, i_ushrI, iI_div, iL_div, Int.toNat_natCast, Int.reduceToNat, iI_ofNat]; omega)]
    exact ⟨_, rfl, rfl, z, z, hE⟩
  · rw [if_neg (show ¬ iI ix < 0 from by simp (disch := omega) only [iI_lit, iL_lit, iI_add, iI_sub, iI_mul, iI_neg, iL_add, iL_sub, iL_mul, iL_neg, iI_lt, iI_le, iI_eq, iL_lt, iL_le, iL_eqS, iI_c, iI_ok, iI_l, iL_i, iI_low, l_ushrI, l_shlI, l_shrI, i_shlI, i_shrI, i_ushrI, iI_div, iL_div, Int.toNat_natCast, Int.reduceToNat, iI_ofNat]; omega), if_neg (show ¬ iI ix < iI (n : Int) from by simp (disch := omega) only [iI_lit, iL_lit, iI_add, iI_sub, iI_mul, iI_neg, iL_add, iL_sub, iL_mul, iL_neg, iI_lt, iI_le, iI_eq, iL_lt, iL_le, iL_eqS, iI_c, iI_ok, iI_l, iL_i, iI_low, l_ushrI, l_shlI, l_shrI, i_shlI, i_shrI, i_ushrI, iI_div, iL_div, Int.toNat_natCast, Int.reduceToNat, iI_ofNat]; omega)]
    exact ⟨_, rfl, rfl, z, z, hE⟩
set_option maxRecDepth 10000 in
theorem wq_77 {i : Nat} (hi : i < 500) {cv : Int} (hcv : CVA cv) {fcv ffl fwd fpr fix : Nat → Int32} (h1 : fcv i = iI cv) {fl : Int32} (h2 : ffl i = fl) {w : Int} (h3 : fwd i = iI w) {pr : Int} (h4 : fpr i = iI pr) {a n : Nat} (h5 : fix i = iI a) (hn : n ≤ 16) (han : a < n) {kc : Nat → Int32} {vc : Nat → Int64} {k v : Int} (hk0 : 0 ≤ k) (hk7 : k ≤ 7) (hv0 : -9223372036854775808 ≤ v) (hv1 : v < 9223372036854775808) (hka : kc a = iI k) (hva : vc a = iL v) {hl0 bl0 : Int32} (hh : LN hl0) (hb : LN bl0) (up0 fl0 le0 cl0 pr0 bo0 wd0 zr0 ho0 : Int32) (tl tv : Nat → Int32) (tc : Nat → Nat → Int32) (hc bc : Nat → Int32) {rln rov : Int32} {rrc : Nat → Int32} {E : List Int32} (hE : BY 32768 rln rov rrc E) (na ng inf q0 op vs us ws ts es ep rs ds dp ns : Int32) (c0 : Int64) (si : Nat) (vl ul wl tl_ ed rl dd nl ch : Nat → Int32) :
    (FITC cv k v → f_Pr_writeDirective (iI i) 4 10600 32768 fcv ffl fwd fpr up0 fl0 hl0 bl0 fix le0 (iI n) kc vc cl0 ds dp dd pr0 na ng inf c0 q0 op vs vl us ul si ws wl ts tl_ es ep ed rs rl bo0 wd0 hc rln rov zr0 bc ns nl ch ho0 rrc tl tv tc = f_Pr_writeDirective_121 (iI a) 4 10600 32768 fcv ffl fwd fpr (iI (upV cv)) fl (iI 0) (iI 0) fix (iI (leV cv)) (iI n) kc vc 0 ds dp dd (iI pr) na ng inf c0 q0 op vs vl us ul si ws wl ts tl_ es ep ed rs rl (iI 0) (iI w) hc rln rov (if fl &&& 16 = 0 then 0 else 1) bc ns nl ch (iI 0) rrc tl tv tc) ∧ (¬ FITC cv k v → ∃ r : T43, f_Pr_writeDirective (iI i) 4 10600 32768 fcv ffl fwd fpr up0 fl0 hl0 bl0 fix le0 (iI n) kc vc cl0 ds dp dd pr0 na ng inf c0 q0 op vs vl us ul si ws wl ts tl_ es ep ed rs rl bo0 wd0 hc rln rov zr0 bc ns nl ch ho0 rrc tl tv tc = some r ∧ WDR 2 E r) := by
  obtain ⟨k0, k1⟩ := CVA_b hcv
  obtain ⟨n1, n2⟩ := CVA_le hcv
  have hok : gx_ok (iI (a : Int)) 16 = true := by simp (disch := omega) only [iI_lit, iL_lit, iI_add, iI_sub, iI_mul, iI_neg, iL_add, iL_sub, iL_mul, iL_neg, iI_lt, iI_le, iI_eq, iL_lt, iL_le, iL_eqS, iI_c, iI_ok, iI_l, iL_i, iI_low, l_ushrI, l_shlI, l_shrI, i_shlI, i_shrI, i_ushrI, iI_div, iL_div, Int.toNat_natCast, Int.reduceToNat, iI_ofNat]; omega
  rw [wd_eq hi k0 k1 h1 h2 h3 h4 hh hb up0 fl0 le0 cl0 pr0 bo0 wd0 zr0 ho0 (iI n) kc vc tl tv tc hc bc rln rov rrc na ng inf q0 op vs us ws ts es ep rs ds dp ns c0 si vl ul wl tl_ ed rl dd nl ch]
  rw [if_neg n1, if_neg n2, h5]
  unfold f_Pr_writeDirective_77
  have z : LN (iI 0) := ⟨0, rfl, by omega⟩
  rw [if_neg (show ¬ iI (a : Int) < 0 from by simp (disch := omega) only [iI_lit, iL_lit, iI_add, iI_sub, iI_mul, iI_neg, iL_add, iL_sub, iL_mul, iL_neg, iI_lt, iI_le, iI_eq, iL_lt, iL_le, iL_eqS, iI_c, iI_ok, iI_l, iL_i, iI_low, l_ushrI, l_shlI, l_shrI, i_shlI, i_shrI, i_ushrI, iI_div, iL_div, Int.toNat_natCast, Int.reduceToNat, iI_ofNat]; omega), if_pos (show iI (a : Int) < iI (n : Int) from by simp (disch := omega) only [iI_lit, iL_lit, iI_add, iI_sub, iI_mul, iI_neg, iL_add, iL_sub, iL_mul, iL_neg, iI_lt, iI_le, iI_eq, iL_lt, iL_le, iL_eqS, iI_c, iI_ok, iI_l, iL_i, iI_low, l_ushrI, l_shlI, l_shrI, i_shlI, i_shrI, i_ushrI, iI_div, iL_div, Int.toNat_natCast, Int.reduceToNat, iI_ofNat]; omega)]
  simp only [if_pos hok]
  rw [iI_c (by omega) (by omega), Int.toNat_natCast, hka, hva, fits_spec hcv hk0 hk7 hv0 hv1, Option.bind_some]
  constructor
  · intro q
    rw [if_pos q, if_neg (show ¬ (1 : Int32) = 0 from by decide)]
  · intro q
    rw [if_neg q, if_pos rfl]
    exact ⟨_, rfl, rfl, z, z, hE⟩
-- UR
set_option maxRecDepth 10000 in
def hq (X : List Int32) (i : Nat) : Int := hr X X.length i
set_option maxRecDepth 10000 in
theorem hq_b (X : List Int32) (i : Nat) : -1 ≤ hq X i ∧ hq X i < 256 := hr_b X _ i
set_option maxRecDepth 10000 in
theorem hq_in {X : List Int32} {i : Nat} (h : 0 ≤ hq X i) : i < X.length := hr_in h
set_option maxRecDepth 10000 in
theorem hq_out {X : List Int32} {i : Nat} (h : X.length ≤ i) : hq X i = -1 := by unfold hq hr; rw [if_neg (by omega)]
set_option maxRecDepth 10000 in
theorem hq_pos {X : List Int32} {i : Nat} (h : i < X.length) : 0 ≤ hq X i := by unfold hq hr; rw [if_pos h]; exact (ubAt_b X i).1
set_option maxRecDepth 10000 in
theorem bat_q {n : Nat} (hn : n < 1000000) {len over : Int32} {c : Nat → Int32} {X : List Int32} (h : BY n len over c X) (hX : X.length ≤ n) {i : Nat} (hi : i ≤ 1000000) : f_By_at (iI i) n len c = some (iI (hq X i)) := by
  by_cases q : i < X.length
  · rw [at_in (by omega) h hX q]; unfold hq hr; rw [if_pos q]
  · rw [at_spec (by omega) h (by omega) (by omega), if_pos (by omega), List.take_of_length_le hX, Int.toNat_natCast, List.getElem?_eq_none (by omega), hq_out (by omega)]; rfl
set_option maxRecDepth 10000 in
theorem fm_at {t : Int32} {tc : Nat → Int32} {X : List Int32} (h : TP t tc X) {i : Nat} (hi : i < X.length) : ∃ a : Int, -128 ≤ a ∧ a < 128 ∧ tc i = iI a ∧ hq X i = (if 0 ≤ a then a else a + 256) := by
  obtain ⟨a, a0, a1, e, u⟩ := tp_at h hi
  exact ⟨a, a0, a1, e, by unfold hq hr; rw [if_pos hi, u]⟩
set_option maxRecDepth 10000 in
def rdN (X : List Int32) : Nat → Int → Nat → Int × Nat
  | 0, v, i => (v, i)
  | d + 1, v, i => if 48 ≤ hq X i ∧ hq X i ≤ 57 then rdN X d (min (v * 10 + hq X i - 48) 10000) (i + 1) else (v, i)
set_option maxRecDepth 10000 in
theorem rdN_b (X : List Int32) : ∀ d v i, 0 ≤ v → v ≤ 10000 → 0 ≤ (rdN X d v i).1 ∧ (rdN X d v i).1 ≤ 10000 ∧ i ≤ (rdN X d v i).2 ∧ (rdN X d v i).2 ≤ i + d
  | 0, v, i, h0, h1 => by unfold rdN; simp; omega
  | d + 1, v, i, h0, h1 => by
    unfold rdN
    split
    · have := rdN_b X d (min (v * 10 + hq X i - 48) 10000) (i + 1) (by omega) (by omega)
      omega
    · simp; omega
set_option maxRecDepth 10000 in
def dN (X : List Int32) (i : Nat) : Int × Nat := rdN X (X.length - i) 0 i
set_option maxRecDepth 10000 in
theorem dN_b (X : List Int32) (i : Nat) : 0 ≤ (dN X i).1 ∧ (dN X i).1 ≤ 10000 ∧ i ≤ (dN X i).2 ∧ (i ≤ X.length → (dN X i).2 ≤ X.length) := by
  have := rdN_b X (X.length - i) 0 i (by omega) (by omega)
  unfold dN
  exact ⟨this.1, this.2.1, this.2.2.1, fun h => by omega⟩
set_option maxRecDepth 10000 in
theorem dN_0 {X : List Int32} {i : Nat} (h : ¬ (48 ≤ hq X i ∧ hq X i ≤ 57)) : dN X i = (0, i) := by
  unfold dN
  cases hh : X.length - i with
  | zero => rfl
  | succ d => unfold rdN; rw [if_neg h]
set_option maxRecDepth 10000 in
theorem dN_1 {X : List Int32} {i : Nat} (h : 48 ≤ hq X i ∧ hq X i ≤ 57) : i < (dN X i).2 := by
  unfold dN
  have := hq_in (X := X) (i := i) (by omega)
  obtain ⟨d, hd⟩ : ∃ d, X.length - i = d + 1 := ⟨X.length - i - 1, by omega⟩
  rw [hd]
  unfold rdN
  rw [if_pos h]
  have := rdN_b X d (min (0 * 10 + hq X i - 48) 10000) (i + 1) (by omega) (by omega)
  omega
set_option maxRecDepth 10000 in
theorem rdnum_loop {n : Nat} (hn : n < 1000000) {len over : Int32} {c : Nat → Int32} {X : List Int32} (h : BY n len over c X) (hX : X.length ≤ n) : ∀ (d m : Nat) (v : Int) (i : Nat), i + d = X.length → d < m → 0 ≤ v → v ≤ 10000 → f_Fm_readNumber_2 m (iI v) n (iI i) len c = some (iI (rdN X d v i).1, iI ((rdN X d v i).2 : Nat)) := by
  have hlen : len = iI (X.length : Int) := by rw [h.1]; congr 2; omega
  intro d
  induction d with
  | zero =>
    intro m v i hd hm h0 h1
    obtain ⟨m, rfl⟩ : ∃ k, m = k + 1 := ⟨m - 1, by omega⟩
    unfold f_Fm_readNumber_2
    rw [if_pos (show len ≤ iI (i : Int) from by rw [hlen]; simp (disch := omega) only [iI_lit, iL_lit, iI_add, iI_sub, iI_mul, iI_neg, iL_add, iL_sub, iL_mul, iL_neg, iI_lt, iI_le, iI_eq, iL_lt, iL_le, iL_eqS, iI_c, iI_ok, iI_l, iL_i, iI_low, l_ushrI, l_shlI, l_shrI, i_shlI, i_shrI, i_ushrI, iI_div, iL_div, Int.toNat_natCast, Int.reduceToNat, iI_ofNat]; omega)]
    rfl
  | succ d ih =>
    intro m v i hd hm h0 h1
    obtain ⟨m, rfl⟩ : ∃ k, m = k + 1 := ⟨m - 1, by omega⟩
    have hb := hq_b X i
    unfold f_Fm_readNumber_2 rdN
    rw [if_neg (show ¬ len ≤ iI (i : Int) from by rw [hlen]; simp (disch := omega) only [iI_lit, iL_lit, iI_add, iI_sub, iI_mul, iI_neg, iL_add, iL_sub, iL_mul, iL_neg, iI_lt, iI_le, iI_eq, iL_lt, iL_le, iL_eqS, iI_c, iI_ok, iI_l, iL_i, iI_low, l_ushrI, l_shlI, l_shrI, i_shlI, i_shrI, i_ushrI, iI_div, iL_div, Int.toNat_natCast, Int.reduceToNat, iI_ofNat]; omega), bat_q hn h hX (by omega), Option.bind_some, ntdig_spec hb.1 hb.2, Option.bind_some]
    by_cases q : 48 ≤ hq X i ∧ hq X i ≤ 57
    · rw [if_pos q, if_neg (show ¬ iI 1 = 0 from by decide), if_pos q, Option.bind_some]
      rw [show (10 : Int32) = iI 10 from rfl, show (48 : Int32) = iI 48 from rfl, show (10000 : Int32) = iI 10000 from rfl, iI_mul, iI_add, iI_sub, min_spec (by omega) (by omega) (by omega) (by omega), Option.bind_some, show (1 : Int32) = iI 1 from rfl, iI_add]
      exact ih m _ (i + 1) (by omega) (by omega) (by omega) (by omega)
    · rw [if_neg q, if_pos (show iI 0 = 0 from rfl), if_neg q]
set_option maxRecDepth 10000 in
theorem readNumber_spec {n : Nat} (hn : n < 1000000) {len over : Int32} {c : Nat → Int32} {X : List Int32} (h : BY n len over c X) (hX : X.length ≤ n) {i : Nat} (hi : i ≤ X.length) : f_Fm_readNumber n (iI i) len c = some (iI (dN X i).1, iI ((dN X i).2 : Nat)) := by
  unfold f_Fm_readNumber dN
  exact rdnum_loop hn h hX (X.length - i) gx_fu 0 i (by omega) (by have := fu_big; omega) (by omega) (by omega)
set_option maxRecDepth 10000 in
def mN (X : List Int32) (i : Nat) : Int := if (dN X i).2 = i then -1 else if (dN X i).1 ≤ 9999 then (dN X i).1 else -2
set_option maxRecDepth 10000 in
theorem mdig_loop {N : Nat} {t : Int32} {c : Nat → Int32} {X : List Int32} (h : TP t c X) (hX : X.length ≤ N) (hN : N ≤ 900000) : ∀ (d m : Nat) (v w : Int) (i i0 : Nat), i + d = X.length → d < m → 0 ≤ w → w ≤ 99999 → v = min w 10000 → i0 ≤ i → f_Md_digits_4 m (iI w) (iI ((i - i0 : Nat) : Int)) N (iI i) (iI X.length) c = some (iI (if (rdN X d v i).2 = i0 then -1 else if (rdN X d v i).1 ≤ 9999 then (rdN X d v i).1 else -2), iI ((rdN X d v i).2 : Nat)) := by
  -- behind the digits
  have fin : ∀ (v w : Int) (i i0 : Nat), i ≤ X.length → 0 ≤ w → w ≤ 99999 → v = min w 10000 → i0 ≤ i → f_Md_digits_88 (iI w) (iI ((i - i0 : Nat) : Int)) N (iI i) (iI X.length) c = some (iI (if i = i0 then -1 else if v ≤ 9999 then v else -2), iI (i : Nat)) := by
    intro v w i i0 hi w0 w1 hv hi0
    unfold f_Md_digits_88
    by_cases q : i = i0
    · rw [if_pos (show iI ((i - i0 : Nat) : Int) = 0 from by rw [show i - i0 = 0 by omega]; rfl), if_pos q]; rfl
    · rw [if_neg (show ¬ iI ((i - i0 : Nat) : Int) = 0 from by simp (disch := omega) only [iI_lit, iL_lit, iI_add, iI_sub, iI_mul, iI_neg, iL_add, iL_sub, iL_mul, iL_neg, iI_lt, iI_le, iI_eq, iL_lt, iL_le, iL_eqS, iI_c, iI_ok, iI_l, iL_i, iI_low, l_ushrI, l_shlI, l_shrI, i_shlI, i_shrI, i_ushrI, iI_div, iL_div, Int.toNat_natCast, Int.reduceToNat, iI_ofNat]; omega), if_neg q]
      by_cases q2 : w ≤ 9999
      · rw [if_pos (show iI w ≤ 9999 from by simp (disch := omega) only [iI_lit, iL_lit, iI_add, iI_sub, iI_mul, iI_neg, iL_add, iL_sub, iL_mul, iL_neg, iI_lt, iI_le, iI_eq, iL_lt, iL_le, iL_eqS, iI_c, iI_ok, iI_l, iL_i, iI_low, l_ushrI, l_shlI, l_shrI, i_shlI, i_shrI, i_ushrI, iI_div, iL_div, Int.toNat_natCast, Int.reduceToNat, iI_ofNat]; omega), if_pos (by omega), show v = w by omega]
      · rw [if_neg (show ¬ iI w ≤ 9999 from by simp (disch := omega) only [iI_lit, iL_lit, iI_add, iI_sub, iI_mul, iI_neg, iL_add, iL_sub, iL_mul, iL_neg, iI_lt, iI_le, iI_eq, iL_lt, iL_le, iL_eqS, iI_c, iI_ok, iI_l, iL_i, iI_low, l_ushrI, l_shlI, l_shrI, i_shlI, i_shrI, i_ushrI, iI_div, iL_div, Int.toNat_natCast, Int.reduceToNat, iI_ofNat]; omega), if_neg (by omega)]; rfl
  intro d
  induction d with
  | zero =>
    intro m v w i i0 hd hm w0 w1 hv hi0
    obtain ⟨m, rfl⟩ : ∃ k, m = k + 1 := ⟨m - 1, by omega⟩
    unfold f_Md_digits_4 rdN
    rw [if_pos (show iI (X.length : Int) ≤ iI (i : Int) from by simp (disch := omega) only [iI_lit, iL_lit, iI_add, iI_sub, iI_mul, iI_neg, iL_add, iL_sub, iL_mul, iL_neg, iI_lt, iI_le, iI_eq, iL_lt, iL_le, iL_eqS, iI_c, iI_ok, iI_l, iL_i, iI_low, l_ushrI, l_shlI, l_shrI, i_shlI, i_shrI, i_ushrI, iI_div, iL_div, Int.toNat_natCast, Int.reduceToNat, iI_ofNat]; omega)]
    exact fin v w i i0 (by omega) w0 w1 hv hi0
  | succ d ih =>
    intro m v w i i0 hd hm w0 w1 hv hi0
    obtain ⟨m, rfl⟩ : ∃ k, m = k + 1 := ⟨m - 1, by omega⟩
    have hok : gx_ok (iI (i : Int)) N = true := by simp (disch := omega) only [iI_lit, iL_lit, iI_add, iI_sub, iI_mul, iI_neg, iL_add, iL_sub, iL_mul, iL_neg, iI_lt, iI_le, iI_eq, iL_lt, iL_le, iL_eqS, iI_c, iI_ok, iI_l, iL_i, iI_low, l_ushrI, l_shlI, l_shrI, i_shlI, i_shrI, i_ushrI, iI_div, iL_div, Int.toNat_natCast, Int.reduceToNat, iI_ofNat]; omega
    obtain ⟨a, a0, a1, ea, eh⟩ := fm_at h (i := i) (by omega)
    unfold f_Md_digits_4 rdN
    rw [if_neg (show ¬ iI (X.length : Int) ≤ iI (i : Int) from by simp (disch := omega) only [iI_lit, iL_lit, iI_add, iI_sub, iI_mul, iI_neg, iL_add, iL_sub, iL_mul, iL_neg, iI_lt, iI_le, iI_eq, iL_lt, iL_le, iL_eqS, iI_c, iI_ok, iI_l, iL_i, iI_low, l_ushrI, l_shlI, l_shrI, i_shlI, i_shrI, i_ushrI, iI_div, iL_div, Int.toNat_natCast, Int.reduceToNat, iI_ofNat]; omega)]
    simp only [if_pos hok]
    rw [iI_c (by omega) (by omega), Int.toNat_natCast, ea]
    by_cases q1 : a < 48
    · rw [if_pos (show iI a < 48 from by simp (disch := omega) only [iI_lit, iL_lit, iI_add, iI_sub, iI_mul, iI_neg, iL_add, iL_sub, iL_mul, iL_neg, iI_lt, iI_le, iI_eq, iL_lt, iL_le, iL_eqS, iI_c, iI_ok, iI_l, iL_i, iI_low, l_ushrI, l_shlI, l_shrI, i_shlI, i_shrI, i_ushrI, iI_div, iL_div, Int.toNat_natCast, Int.reduceToNat, iI_ofNat]; omega), if_neg (show ¬ (48 ≤ hq X i ∧ hq X i ≤ 57) from by rw [eh]; split <;> omega)]
      exact fin v w i i0 (by omega) w0 w1 hv hi0
    · rw [if_neg (show ¬ iI a < 48 from by simp (disch := omega) only [iI_lit, iL_lit, iI_add, iI_sub, iI_mul, iI_neg, iL_add, iL_sub, iL_mul, iL_neg, iI_lt, iI_le, iI_eq, iL_lt, iL_le, iL_eqS, iI_c, iI_ok, iI_l, iL_i, iI_low, l_ushrI, l_shlI, l_shrI, i_shlI, i_shrI, i_ushrI, iI_div, iL_div, Int.toNat_natCast, Int.reduceToNat, iI_ofNat]; omega)]
      rw [if_pos (show 0 ≤ a by omega)] at eh
      by_cases q2 : 57 < a
      · rw [if_pos (show (57 : Int32) < iI a from by simp (disch := omega) only [iI_lit, iL_lit, iI_add, iI_sub, iI_mul, iI_neg, iL_add, iL_sub, iL_mul, iL_neg, iI_lt, iI_le, iI_eq, iL_lt, iL_le, iL_eqS, iI_c, iI_ok, iI_l, iL_i, iI_low, l_ushrI, l_shlI, l_shrI, i_shlI, i_shrI, i_ushrI, iI_div, iL_div, Int.toNat_natCast, Int.reduceToNat, iI_ofNat]; omega), if_neg (show ¬ (48 ≤ hq X i ∧ hq X i ≤ 57) by omega)]
        exact fin v w i i0 (by omega) w0 w1 hv hi0
      · rw [if_neg (show ¬ (57 : Int32) < iI a from by simp (disch := omega) only [iI_lit, iL_lit, iI_add, iI_sub, iI_mul, iI_neg, iL_add, iL_sub, iL_mul, iL_neg, iI_lt, iI_le, iI_eq, iL_lt, iL_le, iL_eqS, iI_c, iI_ok, iI_l, iL_i, iI_low, l_ushrI, l_shlI, l_shrI, i_shlI, i_shrI, i_ushrI, iI_div, iL_div, Int.toNat_natCast, Int.reduceToNat, iI_ofNat]; omega), if_pos (show 48 ≤ hq X i ∧ hq X i ≤ 57 by omega)]
        unfold f_Md_digits_71
        have e1 : iI ((i - i0 : Nat) : Int) + (1 : Int32) = iI ((i + 1 - i0 : Nat) : Int) := by rw [show (1 : Int32) = iI 1 from rfl, iI_add]; congr 1; omega
        have e2 : iI (i : Int) + (1 : Int32) = iI ((i + 1 : Nat) : Int) := by rw [show (1 : Int32) = iI 1 from rfl, iI_add]; rfl
        by_cases q3 : w ≤ 9999
        · rw [if_pos (show iI w ≤ 9999 from by simp (disch := omega) only [iI_lit, iL_lit, iI_add, iI_sub, iI_mul, iI_neg, iL_add, iL_sub, iL_mul, iL_neg, iI_lt, iI_le, iI_eq, iL_lt, iL_le, iL_eqS, iI_c, iI_ok, iI_l, iL_i, iI_low, l_ushrI, l_shlI, l_shrI, i_shlI, i_shrI, i_ushrI, iI_div, iL_div, Int.toNat_natCast, Int.reduceToNat, iI_ofNat]; omega)]
          have e3 : (10 : Int32) * iI w + iI a - 48 = iI (10 * w + a - 48) := by rw [show (10 : Int32) = iI 10 from rfl, show (48 : Int32) = iI 48 from rfl, iI_mul, iI_add, iI_sub]
          rw [e1, e2, e3]
          exact ih m _ _ (i + 1) i0 (by omega) (by omega) (by omega) (by omega) (by rw [eh]; omega) (by omega)
        · rw [if_neg (show ¬ iI w ≤ 9999 from by simp (disch := omega) only [iI_lit, iL_lit, iI_add, iI_sub, iI_mul, iI_neg, iL_add, iL_sub, iL_mul, iL_neg, iI_lt, iI_le, iI_eq, iL_lt, iL_le, iL_eqS, iI_c, iI_ok, iI_l, iL_i, iI_low, l_ushrI, l_shlI, l_shrI, i_shlI, i_shrI, i_ushrI, iI_div, iL_div, Int.toNat_natCast, Int.reduceToNat, iI_ofNat]; omega), e1, e2]
          exact ih m _ _ (i + 1) i0 (by omega) (by omega) (by omega) (by omega) (by omega) (by omega)
set_option maxRecDepth 10000 in
theorem mdigits_spec {N : Nat} {t : Int32} {c : Nat → Int32} {X : List Int32} (h : TP t c X) (hX : X.length ≤ N) (hN : N ≤ 900000) {i : Nat} (hi : i ≤ X.length) : f_Md_digits N (iI i) (iI X.length) c = some (iI (mN X i), iI ((dN X i).2 : Nat)) := by
  unfold f_Md_digits mN dN
  have := mdig_loop h hX hN (X.length - i) gx_fu 0 0 i i (by omega) (by have := fu_big; omega) (by omega) (by omega) (by omega) (by omega)
  rw [Nat.sub_self] at this
  exact this
