-- S5
set_option maxRecDepth 10000 in
theorem s171 {c q w : Int} {M : Nat} {p : Int} {en : Nat} {ed : Nat → Int32} {ln : Nat} {lp : Int} {ld : Nat → Int32} {hn : Nat} {hp : Int} {hd : Nat → Int32} (R : RX c q w M p en ed ln lp ld hn hp hd) {ev : Int} (hev : ev = if c % 2 = 0 then 1 else 0) {N : Nat} (hN1 : 1 ≤ N) (hN2 : N ≤ 1000) (hfound : lowN ev w (gq (q - 2)) (4 * c * gq (q - 2)) (10 ^ (p + 2000).toNat) N ∨ uppN ev (gq (q - 2)) (4 * c * gq (q - 2)) (10 ^ (p + 2000).toNat) N) (b l us dn dp un up_ : Int32) (dc uc : Nat → Int32) (lc : Nat → Int64) :
    mdRow (f_Md_shortest_171 (iL c) (iI N) b l us (iI en) ed lc (iI hn) hd (iI ln) ld (iI p) dn dc dp un uc up_ (iI lp) (iI hp)) (digF (finN ev w (gq (q - 2)) (4 * c * gq (q - 2)) (10 ^ (p + 2000).toNat) N).natAbs) ((nd (finN ev w (gq (q - 2)) (4 * c * gq (q - 2)) (10 ^ (p + 2000).toNat) N).natAbs : Int) + (p - N)) := by
  unfold f_Md_shortest_171
  have hM := rx_M R
  have hup := p10_pos (p + 2000).toNat
  have hg := gq_pos (q - 2)
  have hw := R.w12
  have hc0 := R.c0
  have hD := rx_D R
  have hpb := rx_p R
  obtain ⟨td, dc', e1, hs1, hd1⟩ := cut_spec R.hE (n := N) (by omega) (p := p) (up := 0) (Or.inl rfl) dn dp dc
  obtain ⟨tu, uc', e2, hs2, hd2⟩ := cut_spec R.hE (n := N) (by omega) (p := p) (up := 1) (Or.inr rfl) un up_ uc
  rw [show (0 : Int32) = iI 0 from rfl, show (1 : Int32) = iI 1 from rfl, e1, Option.bind_some, e2, Option.bind_some]
  dsimp only
  have eF0 : cutF (digF M) N 0 = tr (digF M) N := by unfold cutF; rw [if_pos rfl]
  have eC0 : cutC (digF M) N 0 = 0 := by unfold cutC; rw [if_pos rfl]
  have eF1 : cutF (digF M) N 1 = incF (tr (digF M) N) N := by unfold cutF; rw [if_neg (by decide)]
  have eC1 : cutC (digF M) N 1 = incC (tr (digF M) N) N := by unfold cutC; rw [if_neg (by decide)]
  obtain ⟨rd1, rd2⟩ := row_down hM (show 0 < N by omega)
  obtain ⟨ru1, ru2⟩ := row_up hM (show 0 < N by omega)
  -- what both choices stand for
  have hDN := hD N
  have fD : ∀ (x : Option ShT), mdRow x (cutF (digF M) N 0) (p + cutC (digF M) N 0) → finN ev w (gq (q - 2)) (4 * c * gq (q - 2)) (10 ^ (p + 2000).toNat) N = (pre (digF M) N : Int) → mdRow x (digF (finN ev w (gq (q - 2)) (4 * c * gq (q - 2)) (10 ^ (p + 2000).toNat) N).natAbs) ((nd (finN ev w (gq (q - 2)) (4 * c * gq (q - 2)) (10 ^ (p + 2000).toNat) N).natAbs : Int) + (p - N)) := by
    intro x hx hf
    rw [hf, Int.natAbs_natCast, ← rd1, rd2, show (N : Int) + (p - N) = p by omega]
    rw [eF0, eC0, Int.add_zero] at hx
    exact hx
  have fU : ∀ (x : Option ShT), mdRow x (cutF (digF M) N 1) (p + cutC (digF M) N 1) → finN ev w (gq (q - 2)) (4 * c * gq (q - 2)) (10 ^ (p + 2000).toNat) N = (pre (digF M) N : Int) + 1 → mdRow x (digF (finN ev w (gq (q - 2)) (4 * c * gq (q - 2)) (10 ^ (p + 2000).toNat) N).natAbs) ((nd (finN ev w (gq (q - 2)) (4 * c * gq (q - 2)) (10 ^ (p + 2000).toNat) N).natAbs : Int) + (p - N)) := by
    intro x hx hf
    rw [hf, show ((pre (digF M) N : Int) + 1) = ((pre (digF M) N + 1 : Nat) : Int) by omega, Int.natAbs_natCast, ← ru1, ru2, show (N : Int) + incC (tr (digF M) N) N + (p - N) = p + incC (tr (digF M) N) N by omega]
    rw [eF1, eC1] at hx
    exact hx
  have fin0 : ¬ (uppN ev (gq (q - 2)) (4 * c * gq (q - 2)) (10 ^ (p + 2000).toNat) N ∧ (¬ lowN ev w (gq (q - 2)) (4 * c * gq (q - 2)) (10 ^ (p + 2000).toNat) N ∨ betN (4 * c * gq (q - 2)) (10 ^ (p + 2000).toNat) N)) → finN ev w (gq (q - 2)) (4 * c * gq (q - 2)) (10 ^ (p + 2000).toNat) N = (pre (digF M) N : Int) := by
    intro hno; unfold finN; rw [if_neg hno, Int.add_zero, hDN]
  have fin1 : (uppN ev (gq (q - 2)) (4 * c * gq (q - 2)) (10 ^ (p + 2000).toNat) N ∧ (¬ lowN ev w (gq (q - 2)) (4 * c * gq (q - 2)) (10 ^ (p + 2000).toNat) N ∨ betN (4 * c * gq (q - 2)) (10 ^ (p + 2000).toNat) N)) → finN ev w (gq (q - 2)) (4 * c * gq (q - 2)) (10 ^ (p + 2000).toNat) N = (pre (digF M) N : Int) + 1 := by
    intro hno; unfold finN; rw [if_pos hno, hDN]
  have hrz := rho_zero hup hD (rx_L R) R.hEs
  have hhc := half_cmp hup hD N
  have hEd := R.hE
  obtain ⟨_, hen, hed, hez, he9⟩ := hEd
  simp (disch := omega) only [iI_lit, iL_lit, iI_add, iI_sub, iI_mul, iI_neg, iL_add, iL_sub, iL_mul, iL_neg, iI_lt, iI_le, iI_eq, iL_lt, iL_le, iL_eqS, iI_c, iI_ok, iI_l, iL_i, iI_low, l_ushrI, l_shlI, l_shrI, i_shlI, i_shrI, i_ushrI, iI_div, iL_div, Int.toNat_natCast, Int.reduceToNat, iI_ofNat]
  by_cases hlt : (N : Int) < en
  · rw [if_pos hlt, rx_down R hev (by omega) (by omega) hd1 hs1, Option.bind_some, rx_up R hev (by omega) (by omega) hd2 hs2, Option.bind_some, if_pos (by omega)]
    have h9N := he9 N
    have h9N1 := he9 (N - 1)
    have hpar : 4 * c * gq (q - 2) * 10 ^ N / 10 ^ (p + 2000).toNat % 2 = (digF M (N - 1) : Int) % 2 := by
      rw [← hDN]
      obtain ⟨k, rfl⟩ : ∃ k, N = k + 1 := ⟨N - 1, by omega⟩
      rw [pre, Nat.add_sub_cancel]
      omega
    have key : ∀ hv : Int, (hv = -1 ∨ hv = 0 ∨ hv = 1) → (hv = -1 → 2 * (4 * c * gq (q - 2) * 10 ^ N % 10 ^ (p + 2000).toNat) < 10 ^ (p + 2000).toNat) → (hv = 0 → 2 * (4 * c * gq (q - 2) * 10 ^ N % 10 ^ (p + 2000).toNat) = 10 ^ (p + 2000).toNat) → (hv = 1 → 10 ^ (p + 2000).toNat < 2 * (4 * c * gq (q - 2) * 10 ^ N % 10 ^ (p + 2000).toNat)) →
        mdRow (f_Md_shortest_283 (iI N) (iI (if lowN ev w (gq (q - 2)) (4 * c * gq (q - 2)) (10 ^ (p + 2000).toNat) N then 1 else 0)) (iI (if uppN ev (gq (q - 2)) (4 * c * gq (q - 2)) (10 ^ (p + 2000).toNat) N then 1 else 0)) (iI hv) b l us (iI en) ed lc (iI hn) hd (iI ln) ld (iI p) (iI td) dc' (iI (p + cutC (digF M) N 0)) (iI tu) uc' (iI (p + cutC (digF M) N 1)) (iI lp) (iI hp)) (digF (finN ev w (gq (q - 2)) (4 * c * gq (q - 2)) (10 ^ (p + 2000).toNat) N).natAbs) ((nd (finN ev w (gq (q - 2)) (4 * c * gq (q - 2)) (10 ^ (p + 2000).toNat) N).natAbs : Int) + (p - N)) := by
      intro hv hhv g1 g2 g3
      have go : ∀ od : Int, (od = 0 ∨ od = 1) → od = (digF M (N - 1) : Int) % 2 → mdRow (f_Md_shortest_308 (iI (if lowN ev w (gq (q - 2)) (4 * c * gq (q - 2)) (10 ^ (p + 2000).toNat) N then 1 else 0)) (iI (if uppN ev (gq (q - 2)) (4 * c * gq (q - 2)) (10 ^ (p + 2000).toNat) N then 1 else 0)) (iI hv) (iI od) b l us (iI en) ed lc (iI hn) hd (iI ln) ld (iI p) (iI td) dc' (iI (p + cutC (digF M) N 0)) (iI tu) uc' (iI (p + cutC (digF M) N 1)) (iI lp) (iI hp)) (digF (finN ev w (gq (q - 2)) (4 * c * gq (q - 2)) (10 ^ (p + 2000).toNat) N).natAbs) ((nd (finN ev w (gq (q - 2)) (4 * c * gq (q - 2)) (10 ^ (p + 2000).toNat) N).natAbs : Int) + (p - N)) := by
        intro od hod hode
        have hbl : ∀ (A : Prop) [Decidable A], (if A then (1 : Int) else 0) = 0 ∨ (if A then (1 : Int) else 0) = 1 := by
          intro A _; by_cases r : A
          · rw [if_pos r]; exact Or.inr rfl
          · rw [if_neg r]; exact Or.inl rfl
        have hS := s308 (hv := hv) (od := od) (hbl (lowN ev w (gq (q - 2)) (4 * c * gq (q - 2)) (10 ^ (p + 2000).toNat) N)) (hbl (uppN ev (gq (q - 2)) (4 * c * gq (q - 2)) (10 ^ (p + 2000).toNat) N)) hhv hod b l us (iI en) (iI hn) (iI ln) (iI p) (iI lp) (iI hp) ed hd ld lc (pd := p + cutC (digF M) N 0) (pu := p + cutC (digF M) N 1) hd1 hs1 hd2 hs2
        have hbet : betN (4 * c * gq (q - 2)) (10 ^ (p + 2000).toNat) N ↔ (hv = 1 ∨ (hv = 0 ∧ od = 1)) := by
          unfold betN
          rw [hpar, ← hode]
          clear hrz hhc fD fU fin0 fin1 hS
          generalize 4 * c * gq (q - 2) * 10 ^ N % 10 ^ (p + 2000).toNat = ρ at g1 g2 g3 ⊢
          generalize (10 : Int) ^ (p + 2000).toNat = u at g1 g2 g3 ⊢
          rcases hhv with r | r | r
          · have := g1 r
            constructor
            · intro z; omega
            · intro z; omega
          · have := g2 r
            constructor
            · intro z; right; exact ⟨r, by omega⟩
            · intro z; right; exact ⟨by omega, by omega⟩
          · have := g3 r
            constructor
            · intro z; left; exact r
            · intro z; left; omega
        by_cases hlow : lowN ev w (gq (q - 2)) (4 * c * gq (q - 2)) (10 ^ (p + 2000).toNat) N
        · by_cases hupp : uppN ev (gq (q - 2)) (4 * c * gq (q - 2)) (10 ^ (p + 2000).toNat) N
          · by_cases hb : betN (4 * c * gq (q - 2)) (10 ^ (p + 2000).toNat) N
            · have hz := hbet.mp hb
              simp only [if_pos hlow, if_pos hupp] at hS ⊢
              rw [if_neg (by first | omega | (simp; done) | (simp; omega)), if_neg (by first | omega | (simp; done) | (simp; omega))] at hS
              exact fU _ hS (fin1 ⟨hupp, Or.inr hb⟩)
            · have hz : ¬ (hv = 1 ∨ (hv = 0 ∧ od = 1)) := fun r => hb (hbet.mpr r)
              simp only [if_pos hlow, if_pos hupp] at hS ⊢
              rw [if_pos (by first | omega | (simp; done) | (simp; omega)), if_pos (by first | omega | (simp; done) | (simp; omega))] at hS
              exact fD _ hS (fin0 (fun r => r.2.elim (fun z => z hlow) hb))
          · simp only [if_pos hlow, if_neg hupp] at hS ⊢
            rw [if_pos (by first | omega | (simp; done) | (simp; omega)), if_pos (by first | omega | (simp; done) | (simp; omega))] at hS
            exact fD _ hS (fin0 (fun r => hupp r.1))
        · have hupp := hfound.resolve_left hlow
          simp only [if_neg hlow, if_pos hupp] at hS ⊢
          rw [if_neg (by first | omega | (simp; done) | (simp; omega)), if_neg (by first | omega | (simp; done) | (simp; omega))] at hS
          exact fU _ hS (fin1 ⟨hupp, Or.inl hlow⟩)
      unfold f_Md_shortest_283
      simp (disch := omega) only [iI_lit, iL_lit, iI_add, iI_sub, iI_mul, iI_neg, iL_add, iL_sub, iL_mul, iL_neg, iI_lt, iI_le, iI_eq, iL_lt, iL_le, iL_eqS, iI_c, iI_ok, iI_l, iL_i, iI_low, l_ushrI, l_shlI, l_shrI, i_shlI, i_shrI, i_ushrI, iI_div, iL_div, Int.toNat_natCast, Int.reduceToNat, iI_ofNat]
      rw [if_pos (by omega), show ((N : Int) - 1).toNat = N - 1 by omega, hed (N - 1) (by omega)]
      have hm : iI (digF M (N - 1) : Int) &&& iI 1 = iI ((digF M (N - 1) : Int) % 2) := iI_mask (k := 1) (by omega)
      rw [hm]
      have h2 : (digF M (N - 1) : Int) % 2 = 0 ∨ (digF M (N - 1) : Int) % 2 = 1 := by omega
      rcases h2 with r | r
      · rw [r, if_neg (by decide)]; exact go 0 (Or.inl rfl) r.symm
      · rw [r, if_pos rfl]; exact go 1 (Or.inr rfl) r.symm
    rw [hed N (by omega)]
    simp (disch := omega) only [iI_lit, iL_lit, iI_add, iI_sub, iI_mul, iI_neg, iL_add, iL_sub, iL_mul, iL_neg, iI_lt, iI_le, iI_eq, iL_lt, iL_le, iL_eqS, iI_c, iI_ok, iI_l, iL_i, iI_low, l_ushrI, l_shlI, l_shrI, i_shlI, i_shrI, i_ushrI, iI_div, iL_div, Int.toNat_natCast, Int.reduceToNat, iI_ofNat]
    have hz1 := hrz (N + 1)
    by_cases h5 : (digF M N : Int) = 5
    · rw [if_pos h5]
      have h5' : digF M N = 5 := by omega
      by_cases h6 : (en : Int) ≤ (N : Int) + 1
      · rw [if_pos h6]
        exact key 0 (Or.inr (Or.inl rfl)) (fun z => by omega) (fun _ => (hhc.2.2 h5').1 (hz1.mpr (by omega))) (fun z => by omega)
      · rw [if_neg h6]
        exact key 1 (Or.inr (Or.inr rfl)) (fun z => by omega) (fun z => by omega) (fun _ => (hhc.2.2 h5').2 (fun z => by have := hz1.mp z; omega))
    · rw [if_neg h5, if_pos (by omega)]
      by_cases h6 : (5 : Int) ≤ (digF M N : Int)
      · rw [if_pos h6]
        exact key 1 (Or.inr (Or.inr rfl)) (fun z => by omega) (fun z => by omega) (fun _ => hhc.2.1 (by omega))
      · rw [if_neg h6]
        exact key (-1) (Or.inl rfl) (fun _ => hhc.1 (by omega)) (fun z => by omega) (fun z => by omega)
  · rw [if_neg hlt]
    refine fD _ ⟨_, rfl, td, rfl, hd1, hs1, rfl⟩ (fin0 ?_)
    -- nothing is left behind N digits
    have hr0 := (hrz N).mpr (by omega)
    rintro ⟨_, h2 | h2⟩
    · apply h2
      unfold lowN
      rw [hr0]
      have := Int.mul_pos (Int.mul_pos (show 0 < w by omega) hg) (p10_pos N)
      exact Or.inl this
    · unfold betN at h2
      rw [hr0] at h2
      omega
-- S6
set_option maxRecDepth 10000 in
theorem mono12 {ev w h X u : Int} (hu : 0 < u) (hf : lowN ev w h X u 1 ∨ uppN ev h X u 1) : lowN ev w h X u 2 ∨ uppN ev h X u 2 := by
  have s2 := (dstep (X := X) hu 1).2
  have n0 := Int.emod_nonneg (X * 10 ^ 1) (show u ≠ 0 by omega)
  have n1 := Int.emod_lt_of_pos (X * 10 ^ 1) hu
  have e := Int.mul_ediv_add_emod (X * 10 ^ 1 % u * 10) u
  have m0 := Int.emod_nonneg (X * 10 ^ 1 % u * 10) (show u ≠ 0 by omega)
  have d0 : 0 ≤ X * 10 ^ 1 % u * 10 / u := Int.ediv_nonneg (by omega) (by omega)
  have d9 : X * 10 ^ 1 % u * 10 / u < 10 := Int.ediv_lt_of_lt_mul hu (by omega)
  rw [← s2] at e m0
  have p1 : (10 : Int) ^ 1 = 10 := rfl
  have p2 : (10 : Int) ^ (1 + 1) = 100 := rfl
  unfold lowN uppN at *
  rw [show (2 : Nat) = 1 + 1 from rfl]
  generalize X * 10 ^ (1 + 1) % u = s at *
  generalize X * 10 ^ 1 % u * 10 / u = d at *
  generalize X * 10 ^ 1 % u = r at *
  rw [p1] at hf
  rw [p2]
  have hd1 : 0 ≤ u * d := Int.mul_nonneg (by omega) d0
  have hd2 : u * d ≤ u * 9 := Int.mul_le_mul_of_nonneg_left (by omega) (by omega)
  generalize w * h = wh at *
  rcases hf with hf | hf
  · left; omega
  · right; omega
set_option maxRecDepth 10000 in
theorem rx_b {c q w : Int} {M : Nat} {p : Int} {en : Nat} {ed : Nat → Int32} {ln : Nat} {lp : Int} {ld : Nat → Int32} {hn : Nat} {hp : Int} {hd : Nat → Int32} (R : RX c q w M p en ed ln lp ld hn hp hd) : 4 * c * gq (q - 2) < 10 ^ (p + 2000).toNat ∧ 10 ^ (p + 2000).toNat ≤ 10 * (4 * c * gq (q - 2)) := by
  have hup := p10_pos (p + 2000).toNat
  have hX : 0 < 4 * c * gq (q - 2) := Int.mul_pos (by have := R.c0; omega) (gq_pos _)
  have h0 := rx_D R 0
  have h1 := rx_D R 1
  have p0 : (10 : Int) ^ 0 = 1 := rfl
  have p1 : (10 : Int) ^ 1 = 10 := rfl
  rw [p0, Int.mul_one] at h0
  rw [p1] at h1
  have hd := digF_0 (rx_M R)
  have e0 : pre (digF M) 0 = 0 := rfl
  have e1 : pre (digF M) 1 = digF M 0 := by simp [pre]
  rw [e0] at h0
  rw [e1] at h1
  generalize (10 : Int) ^ (p + 2000).toNat = u at *
  generalize 4 * c * gq (q - 2) = X at *
  constructor
  · rcases Int.lt_or_le X u with r | r
    · exact r
    · have : 1 ≤ X / u := by rw [Int.le_ediv_iff_mul_le hup]; omega
      omega
  · have : 1 ≤ X * 10 / u := by omega
    rw [Int.le_ediv_iff_mul_le hup] at this
    omega
set_option maxRecDepth 10000 in
theorem rx_18 {c q w : Int} {M : Nat} {p : Int} {en : Nat} {ed : Nat → Int32} {ln : Nat} {lp : Int} {ld : Nat → Int32} {hn : Nat} {hp : Int} {hd : Nat → Int32} (R : RX c q w M p en ed ln lp ld hn hp hd) {ev : Int} : lowN ev w (gq (q - 2)) (4 * c * gq (q - 2)) (10 ^ (p + 2000).toNat) 18 ∨ uppN ev (gq (q - 2)) (4 * c * gq (q - 2)) (10 ^ (p + 2000).toNat) 18 := by
  obtain ⟨_, hb⟩ := rx_b R
  have hg := gq_pos (q - 2)
  have hw := R.w12
  have hc := R.c1
  unfold lowN uppN
  generalize 4 * c * gq (q - 2) * 10 ^ 18 % 10 ^ (p + 2000).toNat = r
  generalize (10 : Int) ^ (p + 2000).toNat = u at *
  generalize gq (q - 2) = h at *
  have h18 : (10 : Int) ^ 18 = 1000000000000000000 := rfl
  rw [h18]
  by_cases h1 : r < w * h * 1000000000000000000
  · exact Or.inl (Or.inl h1)
  · refine Or.inr (Or.inl ?_)
    have h2 : 1 * h ≤ w * h := Int.mul_le_mul_of_nonneg_right (by omega) (by omega)
    have h3 : c * h ≤ 9007199254740991 * h := Int.mul_le_mul_of_nonneg_right (by omega) (by omega)
    have e : 4 * c * h = 4 * (c * h) := by grind
    rw [e] at hb
    omega
set_option maxRecDepth 10000 in
theorem s107 {c q w : Int} {M : Nat} {p : Int} {en : Nat} {ed : Nat → Int32} {ln : Nat} {lp : Int} {ld : Nat → Int32} {hn : Nat} {hp : Int} {hd : Nat → Int32} (R : RX c q w M p en ed ln lp ld hn hp hd) {ev : Int} (hev : ev = if c % 2 = 0 then 1 else 0) (b l us : Int32) (lc : Nat → Int64) {N1 : Nat} (hN1 : N1 ≤ 18) (hf : lowN ev w (gq (q - 2)) (4 * c * gq (q - 2)) (10 ^ (p + 2000).toNat) N1 ∨ uppN ev (gq (q - 2)) (4 * c * gq (q - 2)) (10 ^ (p + 2000).toNat) N1) :
    ∀ (d n m : Nat) (dn dp un up_ : Int32) (dc uc : Nat → Int32), n + d = N1 → 1 ≤ n → d < m → (∀ k, n ≤ k → k < N1 → ¬ (lowN ev w (gq (q - 2)) (4 * c * gq (q - 2)) (10 ^ (p + 2000).toNat) k ∨ uppN ev (gq (q - 2)) (4 * c * gq (q - 2)) (10 ^ (p + 2000).toNat) k)) →
    ∃ (dn' dp' un' up' : Int32) (dc' uc' : Nat → Int32), f_Md_shortest_107 m (iL c) (iI n) b l us (iI en) ed lc (iI hn) hd (iI ln) ld (iI p) dn dc dp un uc up_ (iI lp) (iI hp) = f_Md_shortest_162 (iL c) (iI N1) b l us (iI en) ed lc (iI hn) hd (iI ln) ld (iI p) dn' dc' dp' un' uc' up' (iI lp) (iI hp) := by
  intro d
  induction d with
  | zero =>
    intro n m dn dp un up_ dc uc hn hn1 hm hnot
    obtain ⟨m, rfl⟩ : ∃ m', m = m' + 1 := ⟨m - 1, by omega⟩
    obtain rfl : n = N1 := by omega
    rw [f_Md_shortest_107]
    obtain ⟨td, dc', e1, hs1, hd1⟩ := cut_spec R.hE (n := n) (by omega) (p := p) (up := 0) (Or.inl rfl) dn dp dc
    obtain ⟨tu, uc', e2, hs2, hd2⟩ := cut_spec R.hE (n := n) (by omega) (p := p) (up := 1) (Or.inr rfl) un up_ uc
    rw [show (0 : Int32) = iI 0 from rfl, show (1 : Int32) = iI 1 from rfl, e1, Option.bind_some, e2, Option.bind_some]
    dsimp only
    rw [rx_down R hev (by omega) (by omega) hd1 hs1, Option.bind_some, rx_up R hev (by omega) (by omega) hd2 hs2, Option.bind_some]
    by_cases hlow : lowN ev w (gq (q - 2)) (4 * c * gq (q - 2)) (10 ^ (p + 2000).toNat) n
    · rw [if_pos hlow, if_neg (by decide)]
      exact ⟨_, _, _, _, _, _, rfl⟩
    · rw [if_neg hlow, if_pos rfl, if_pos (hf.resolve_left hlow), if_neg (by decide)]
      exact ⟨_, _, _, _, _, _, rfl⟩
  | succ d ih =>
    intro n m dn dp un up_ dc uc hn hn1 hm hnot
    obtain ⟨m, rfl⟩ : ∃ m', m = m' + 1 := ⟨m - 1, by omega⟩
    rw [f_Md_shortest_107]
    obtain ⟨td, dc', e1, hs1, hd1⟩ := cut_spec R.hE (n := n) (by omega) (p := p) (up := 0) (Or.inl rfl) dn dp dc
    obtain ⟨tu, uc', e2, hs2, hd2⟩ := cut_spec R.hE (n := n) (by omega) (p := p) (up := 1) (Or.inr rfl) un up_ uc
    rw [show (0 : Int32) = iI 0 from rfl, show (1 : Int32) = iI 1 from rfl, e1, Option.bind_some, e2, Option.bind_some]
    dsimp only
    have hno := hnot n (by omega) (by omega)
    rw [rx_down R hev (by omega) (by omega) hd1 hs1, Option.bind_some, rx_up R hev (by omega) (by omega) hd2 hs2, Option.bind_some]
    rw [if_neg (fun r => hno (Or.inl r)), if_pos rfl, if_neg (fun r => hno (Or.inr r)), if_pos rfl, iI_add, show ((n : Int) + 1) = ((n + 1 : Nat) : Int) by omega]
    exact ih (n + 1) m _ _ _ _ _ _ (by omega) (by omega) (by omega) (fun k h1 h2 => hnot k (by omega) h2)
set_option maxRecDepth 10000 in
theorem s104 {c q w : Int} {M : Nat} {p : Int} {en : Nat} {ed : Nat → Int32} {ln : Nat} {lp : Int} {ld : Nat → Int32} {hn : Nat} {hp : Int} {hd : Nat → Int32} (R : RX c q w M p en ed ln lp ld hn hp hd) {ev : Int} (hev : ev = if c % 2 = 0 then 1 else 0) (b l us dn dp un up_ : Int32) (dc uc : Nat → Int32) (lc : Nat → Int64) :
    ∃ Df P, isShortN c q w ev Df P ∧ mdRow (f_Md_shortest_104 (iL c) b l us (iI en) ed lc (iI hn) hd (iI ln) ld (iI p) dn dc dp un uc up_ (iI lp) (iI hp)) (digF Df.natAbs) P := by
  unfold f_Md_shortest_104
  have hup := p10_pos (p + 2000).toNat
  obtain ⟨N1, h1, h2, h3, h4⟩ := least_in (fun k => lowN ev w (gq (q - 2)) (4 * c * gq (q - 2)) (10 ^ (p + 2000).toNat) k ∨ uppN ev (gq (q - 2)) (4 * c * gq (q - 2)) (10 ^ (p + 2000).toNat) k) (fun _ => inferInstance) 17 1 (rx_18 R)
  obtain ⟨dn', dp', un', up', dc', uc', e⟩ := s107 R hev b l us lc (by omega) h3 (N1 - 1) 1 gx_fu dn dp un up_ dc uc (by omega) (by omega) (by have := fu_pos; omega) h4
  rw [show (1 : Int32) = iI ((1 : Nat) : Int) from rfl, e]
  have hpb := rx_p R
  obtain ⟨b1, b2⟩ := rx_b R
  unfold f_Md_shortest_162
  rw [show (1 : Int32) = iI 1 from rfl, show (2 : Int32) = iI ((2 : Nat) : Int) from rfl]
  simp (disch := omega) only [iI_lit, iL_lit, iI_add, iI_sub, iI_mul, iI_neg, iL_add, iL_sub, iL_mul, iL_neg, iI_lt, iI_le, iI_eq, iL_lt, iL_le, iL_eqS, iI_c, iI_ok, iI_l, iL_i, iI_low, l_ushrI, l_shlI, l_shrI, i_shlI, i_shrI, i_ushrI, iI_div, iL_div, Int.toNat_natCast, Int.reduceToNat, iI_ofNat]
  by_cases hone : (N1 : Int) = 1
  · rw [if_pos hone]
    have hN1 : N1 = 1 := by omega
    rw [hN1] at h3
    have f2 := mono12 hup h3
    exact ⟨_, _, ⟨p, 2, b1, b2, by omega, by omega, f2, fun k k1 k2 => by omega, rfl, rfl, by omega, by omega⟩, s171 R hev (N := 2) (by omega) (by omega) f2 b l us dn' dp' un' up' dc' uc' lc⟩
  · rw [if_neg hone]
    exact ⟨_, _, ⟨p, N1, b1, b2, by omega, by omega, h3, fun k k1 k2 => h4 k (by omega) k2, rfl, rfl, by omega, by omega⟩, s171 R hev (N := N1) (by omega) (by omega) h3 b l us dn' dp' un' up' dc' uc' lc⟩
-- T
set_option maxRecDepth 10000 in
def mC (s : Nat) (z : Int) : Int := if z < 2 ^ (szD s - 1) then z else z % 2 ^ (szD s - 1) + 2 ^ (szD s - 1)
set_option maxRecDepth 10000 in
def mQ (s : Nat) (z : Int) : Int := if z / 2 ^ (szD s - 1) = 0 then szL s else szL s + z / 2 ^ (szD s - 1) - 1
set_option maxRecDepth 10000 in
theorem sz_p {s : Nat} (hs : s < 2) : (2 : Int) ^ (szD s - 1) ≤ 4503599627370496 ∧ 1 < (2 : Int) ^ (szD s - 1) ∧ szD s - 1 < 63 ∧ 0 < szD s ∧ -1074 ≤ szL s ∧ szL s ≤ -149 := by
  rcases sz_cases hs with h | h
  · obtain ⟨_, h1, h2, _⟩ := h; rw [h1, h2]; decide
  · obtain ⟨_, h1, h2, _⟩ := h; rw [h1, h2]; decide
set_option maxRecDepth 10000 in
theorem fraction_spec {s : Nat} (hs : s < 2) : f_Md_fraction (iI (szD s)) = some (iL (2 ^ (szD s - 1) - 1)) := by
  obtain ⟨h1, h2, h3, h4, _⟩ := sz_p hs
  unfold f_Md_fraction
  simp (disch := omega) only [iI_lit, iL_lit, iI_add, iI_sub, iI_mul, iI_neg, iL_add, iL_sub, iL_mul, iL_neg, iI_lt, iI_le, iI_eq, iL_lt, iL_le, iL_eqS, iI_c, iI_ok, iI_l, iL_i, iI_low, l_ushrI, l_shlI, l_shrI, i_shlI, i_shrI, i_ushrI, iI_div, iL_div, Int.toNat_natCast, Int.reduceToNat, iI_ofNat]
  rw [show ((szD s : Int) - 1).toNat = szD s - 1 by omega, Int.one_mul]
set_option maxRecDepth 10000 in
theorem mc_spec {s : Nat} (hs : s < 2) {z : Int} (h0 : 0 ≤ z) (hz : z < 9223372036854775808) : f_Md_c (iL z) (iI (szD s)) = some (iL (mC s z)) := by
  obtain ⟨h1, h2, h3, h4, _⟩ := sz_p hs
  unfold f_Md_c mC
  rw [fraction_spec hs, Option.bind_some, Option.bind_some, Option.bind_some, iL_mask h0 (by omega) (by omega)]
  simp (disch := omega) only [iI_lit, iL_lit, iI_add, iI_sub, iI_mul, iI_neg, iL_add, iL_sub, iL_mul, iL_neg, iI_lt, iI_le, iI_eq, iL_lt, iL_le, iL_eqS, iI_c, iI_ok, iI_l, iL_i, iI_low, l_ushrI, l_shlI, l_shrI, i_shlI, i_shrI, i_ushrI, iI_div, iL_div, Int.toNat_natCast, Int.reduceToNat, iI_ofNat]
  by_cases h : z < 2 ^ (szD s - 1)
  · rw [if_pos (by omega), if_pos h, Int.emod_eq_of_lt h0 h]
  · rw [if_neg (by omega), if_neg h, show (2 : Int) ^ (szD s - 1) - 1 + 1 = 1 * 2 ^ (szD s - 1) by omega, Int64.or_comm]
    have e0 := Int.emod_nonneg z (show (2 : Int) ^ (szD s - 1) ≠ 0 by omega)
    have e1 := Int.emod_lt_of_pos z (show (0 : Int) < 2 ^ (szD s - 1) by omega)
    rw [iL_orK (szD s - 1) (by omega) e0 e1 (by omega)]
    congr 2
    omega
set_option maxRecDepth 10000 in
theorem mq_spec {s : Nat} (hs : s < 2) {z : Int} (h0 : 0 ≤ z) (hz : z < 9223372036854775808) (hx : z / 2 ^ (szD s - 1) < 10000) : f_Md_q (iL z) (iI (szD s)) (iI (szL s)) = some (iI (mQ s z)) := by
  obtain ⟨h1, h2, h3, h4, h5, h6⟩ := sz_p hs
  have hd0 : 0 ≤ z / 2 ^ (szD s - 1) := Int.ediv_nonneg h0 (by omega)
  unfold f_Md_q mQ
  simp (disch := omega) only [iI_lit, iL_lit, iI_add, iI_sub, iI_mul, iI_neg, iL_add, iL_sub, iL_mul, iL_neg, iI_lt, iI_le, iI_eq, iL_lt, iL_le, iL_eqS, iI_c, iI_ok, iI_l, iL_i, iI_low, l_ushrI, l_shlI, l_shrI, i_shlI, i_shrI, i_ushrI, iI_div, iL_div, Int.toNat_natCast, Int.reduceToNat, iI_ofNat]
  rw [show ((szD s : Int) - 1).toNat = szD s - 1 by omega]
  simp (disch := omega) only [iI_lit, iL_lit, iI_add, iI_sub, iI_mul, iI_neg, iL_add, iL_sub, iL_mul, iL_neg, iI_lt, iI_le, iI_eq, iL_lt, iL_le, iL_eqS, iI_c, iI_ok, iI_l, iL_i, iI_low, l_ushrI, l_shlI, l_shrI, i_shlI, i_shrI, i_ushrI, iI_div, iL_div, Int.toNat_natCast, Int.reduceToNat, iI_ofNat]
  by_cases h : z / 2 ^ (szD s - 1) = 0
  · rw [if_pos h, if_pos h]
  · rw [if_neg h, if_neg h]
set_option maxRecDepth 10000 in
theorem mC_b {s : Nat} (hs : s < 2) {z : Int} (h0 : 0 < z) : 0 < mC s z ∧ mC s z < 9007199254740992 := by
  obtain ⟨h1, h2, h3, h4, h5, h6⟩ := sz_p hs
  have e0 := Int.emod_nonneg z (show (2 : Int) ^ (szD s - 1) ≠ 0 by omega)
  have e1 := Int.emod_lt_of_pos z (show (0 : Int) < 2 ^ (szD s - 1) by omega)
  unfold mC; split <;> omega
set_option maxRecDepth 10000 in
theorem row_rv {C Q : Int} (hC0 : 0 < C) (hC1 : C < 72057594037927936) (hQ0 : -1080 ≤ Q) (hQ1 : Q ≤ 980) {t : Nat} {cc : Nat → Int32} (hs : isStrip (digF (mantI C Q).toNat) t) (hD : DL 1300 (iI t) cc t (digF (mantI C Q).toNat)) :
    ∃ δ, DL 1300 (iI t) cc t δ ∧ δ 0 ≠ 0 ∧ rv δ t ((nd (mantI C Q).toNat : Int) + min Q 0) = C * gq Q := by
  obtain ⟨b1, b2⟩ := mant_b hC0 hC1 hQ0 hQ1
  refine ⟨_, hD, digF_0 (by omega), ?_⟩
  rw [rv_row b1 (by omega) (by omega) b2 hs (strip_le hs), ← xs_eq (by omega)]
  rfl
set_option maxRecDepth 10000 in
theorem mshort_spec {s : Nat} (hs : s < 2) {z : Int} (h0 : 0 < z) (hz : z < 9223372036854775808) (hx : z / 2 ^ (szD s - 1) ≤ szG s - szL s + 1) (us rn0 rn1 rn2 rp0 rp1 rp2 dn dp un up_ : Int32) (d0 d1 d2 dc uc : Nat → Int32) (lc : Nat → Int64) :
    ∃ Df P, isShortN (mC s z) (mQ s z) (if mC s z = 2 ^ (szD s - 1) ∧ szL s < mQ s z then 1 else 2) (if mC s z % 2 = 0 then 1 else 0) Df P ∧ mdRow (f_Md_shortest (iL z) (iI (szD s)) (iI (szL s)) us rn0 d0 lc rn1 d1 rn2 d2 rp0 dn dc dp un uc up_ rp2 rp1) (digF Df.natAbs) P := by
  obtain ⟨h1, h2, h3, h4, h5, h6⟩ := sz_p hs
  obtain ⟨c0, c1⟩ := mC_b hs h0
  have hG : szG s - szL s ≤ 2045 ∧ szL s + (szG s - szL s) ≤ 971 := by rcases sz_cases hs with h | h <;> omega
  have hd0 : 0 ≤ z / 2 ^ (szD s - 1) := Int.ediv_nonneg (by omega) (by omega)
  have hQ : -1074 ≤ mQ s z ∧ mQ s z ≤ 971 := by unfold mQ; split <;> omega
  unfold f_Md_shortest
  rw [mc_spec hs (by omega) hz, Option.bind_some, mq_spec hs (by omega) hz (by omega), Option.bind_some]
  generalize hC : mC s z = C at *
  generalize hq : mQ s z = Q at *
  obtain ⟨us1, t1, e1c, l1c, e1, s1, D1⟩ := row_spec (C := C) (q := Q) (by omega) (by omega) (by omega) (by omega) (mant_b c0 (by omega) (by omega) (by omega)).2 us rn0 rp0 d0 lc
  rw [e1, Option.bind_some]
  dsimp only
  simp (disch := omega) only [iI_lit, iL_lit, iI_add, iI_sub, iI_mul, iI_neg, iL_add, iL_sub, iL_mul, iL_neg, iI_lt, iI_le, iI_eq, iL_lt, iL_le, iL_eqS, iI_c, iI_ok, iI_l, iL_i, iI_low, l_ushrI, l_shlI, l_shrI, i_shlI, i_shrI, i_ushrI, iI_div, iL_div, Int.toNat_natCast, Int.reduceToNat, iI_ofNat]
  obtain ⟨us2, t2, e2c, l2c, e2, s2, D2⟩ := row_spec (C := 2 * C + 1) (q := Q - 1) (by omega) (by omega) (by omega) (by omega) (mant_b (by omega) (by omega) (by omega) (by omega)).2 us1 rn1 rp1 d1 l1c
  rw [e2, Option.bind_some]
  dsimp only
  rw [fraction_spec hs, Option.bind_some, show iL (2 ^ (szD s - 1) - 1) + iL 1 = iL (2 ^ (szD s - 1)) by rw [iL_add]; congr 1; omega]
  have hg1 := gq_step (q := Q) (by omega)
  have hg2 := gq_step (q := Q - 1) (by omega)
  rw [show Q - 1 - 1 = Q - 2 by omega] at hg2
  have mk : ∀ (w : Int) (t3 : Nat) (e3c : Nat → Int32) (p3 : Int) (δ3 : Nat → Nat), (w = 1 ∨ w = 2) → DL 1300 (iI t3) e3c t3 δ3 → δ3 0 ≠ 0 → rv δ3 t3 p3 = 4 * C * gq (Q - 2) - w * gq (Q - 2) → -600 ≤ p3 ∧ p3 ≤ 600 → RX C Q w (mantI C Q).toNat ((nd (mantI C Q).toNat : Int) + min Q 0) t1 e1c t3 p3 e3c t2 ((nd (mantI (2 * C + 1) (Q - 1)).toNat : Int) + min (Q - 1) 0) e2c := by
    intro w t3 e3c p3 δ3 hw hD3 hδ hrv hp3
    obtain ⟨δ2, r1, r2, r3⟩ := row_rv (C := 2 * C + 1) (Q := Q - 1) (by omega) (by omega) (by omega) (by omega) s2 D2
    have b2 := pt_b (C := 2 * C + 1) (Q := Q - 1) (by omega) (by omega) (by omega) (by omega)
    refine ⟨c0, c1, by omega, by omega, hw, by rw [Int.toNat_of_nonneg (Int.le_of_lt (mant_b c0 (by omega) (by omega) (by omega)).1)], rfl, D1, s1, ⟨δ3, hD3, hδ, hrv⟩, hp3, ⟨δ2, r1, r2, ?_⟩, ⟨b2.1, by omega⟩⟩
    rw [r3, hg2]
    generalize gq (Q - 2) = g
    grind
  by_cases hun : C = 2 ^ (szD s - 1) ∧ szL s < Q
  · rw [if_pos hun]
    simp (disch := omega) only [iI_lit, iL_lit, iI_add, iI_sub, iI_mul, iI_neg, iL_add, iL_sub, iL_mul, iL_neg, iI_lt, iI_le, iI_eq, iL_lt, iL_le, iL_eqS, iI_c, iI_ok, iI_l, iL_i, iI_low, l_ushrI, l_shlI, l_shrI, i_shlI, i_shrI, i_ushrI, iI_div, iL_div, Int.toNat_natCast, Int.reduceToNat, iI_ofNat]
    rw [if_pos hun.1, if_neg (show ¬ Q ≤ szL s by omega)]
    obtain ⟨us3, t3, e3c, l3c, e3, s3, D3⟩ := row_spec (C := 4 * C - 1) (q := Q - 2) (by omega) (by omega) (by omega) (by omega) (mant_b (by omega) (by omega) (by omega) (by omega)).2 us2 rn2 rp2 d2 l2c
    rw [e3, Option.bind_some]
    dsimp only
    obtain ⟨δ3, r1, r2, r3⟩ := row_rv (C := 4 * C - 1) (Q := Q - 2) (by omega) (by omega) (by omega) (by omega) s3 D3
    have b3 := pt_b (C := 4 * C - 1) (Q := Q - 2) (by omega) (by omega) (by omega) (by omega)
    have R := mk 1 t3 e3c _ δ3 (Or.inl rfl) r1 r2 (by rw [r3]; generalize gq (Q - 2) = g; grind) ⟨b3.1, by omega⟩
    exact s104 R rfl (iI (szD s)) (iI (szL s)) us3 dn dp un up_ dc uc l3c
  · rw [if_neg hun]
    obtain ⟨us3, t3, e3c, l3c, e3, s3, D3⟩ := row_spec (C := 2 * C - 1) (q := Q - 1) (by omega) (by omega) (by omega) (by omega) (mant_b (by omega) (by omega) (by omega) (by omega)).2 us2 rn2 rp2 d2 l2c
    obtain ⟨δ3, r1, r2, r3⟩ := row_rv (C := 2 * C - 1) (Q := Q - 1) (by omega) (by omega) (by omega) (by omega) s3 D3
    have b3 := pt_b (C := 2 * C - 1) (Q := Q - 1) (by omega) (by omega) (by omega) (by omega)
    have R := mk 2 t3 e3c _ δ3 (Or.inr rfl) r1 r2 (by rw [r3, hg2]; generalize gq (Q - 2) = g; grind) ⟨b3.1, by omega⟩
    have fin := s104 R rfl (iI (szD s)) (iI (szL s)) us3 dn dp un up_ dc uc l3c
    have e85 : f_Md_shortest_85 (iL C) (iI Q) (iI (szD s)) (iI (szL s)) us2 (iI t1) e1c l2c (iI t2) e2c rn2 d2 (iI ((nd (mantI C Q).toNat : Int) + min Q 0)) dn dc dp un uc up_ rp2 (iI ((nd (mantI (2 * C + 1) (Q - 1)).toNat : Int) + min (Q - 1) 0)) = f_Md_shortest_104 (iL C) (iI (szD s)) (iI (szL s)) us3 (iI t1) e1c l3c (iI t2) e2c (iI t3) e3c (iI ((nd (mantI C Q).toNat : Int) + min Q 0)) dn dc dp un uc up_ (iI ((nd (mantI (2 * C - 1) (Q - 1)).toNat : Int) + min (Q - 1) 0)) (iI ((nd (mantI (2 * C + 1) (Q - 1)).toNat : Int) + min (Q - 1) 0)) := by
      unfold f_Md_shortest_85
      simp (disch := omega) only [iI_lit, iL_lit, iI_add, iI_sub, iI_mul, iI_neg, iL_add, iL_sub, iL_mul, iL_neg, iI_lt, iI_le, iI_eq, iL_lt, iL_le, iL_eqS, iI_c, iI_ok, iI_l, iL_i, iI_low, l_ushrI, l_shlI, l_shrI, i_shlI, i_shrI, i_ushrI, iI_div, iL_div, Int.toNat_natCast, Int.reduceToNat, iI_ofNat]
      rw [e3, Option.bind_some]
    rw [e85]
    simp (disch := omega) only [iI_lit, iL_lit, iI_add, iI_sub, iI_mul, iI_neg, iL_add, iL_sub, iL_mul, iL_neg, iI_lt, iI_le, iI_eq, iL_lt, iL_le, iL_eqS, iI_c, iI_ok, iI_l, iL_i, iI_low, l_ushrI, l_shlI, l_shrI, i_shlI, i_shrI, i_ushrI, iI_div, iL_div, Int.toNat_natCast, Int.reduceToNat, iI_ofNat]
    by_cases hc2 : C = 2 ^ (szD s - 1)
    · rw [if_pos hc2, if_pos (show Q ≤ szL s by omega)]; exact fin
    · rw [if_neg hc2]; exact fin
-- U
set_option maxRecDepth 10000 in
def MB (h : Int32) (c : Nat → Int32) (bl : Nat) (E : List Int32) : Prop := h = iI E.length ∧ E.length ≤ bl ∧ 0 < bl ∧ (∀ i x, E[i]? = some x → c i = x) ∧ ∀ x ∈ E, sb x = x
set_option maxRecDepth 10000 in
def PUT (x : Option (Int32 × (Nat → Int32) × Nat)) (bl L : Nat) (E : List Int32) : Prop := ∃ h c bl', x = some (h, c, bl') ∧ MB h c bl' E ∧ bl ≤ bl' ∧ bl' ≤ max bl (2 * L)
set_option maxRecDepth 10000 in
theorem mo_some {τ : Type} {π : τ → Nat} {b : Nat} {x : Option τ} {r : τ} (h : x = some r) (hb : b ≤ π r) : gx_mo π b x = some r := by
  subst h
  unfold gx_mo
  rw [Option.bind_some, if_pos hb]
set_option maxRecDepth 10000 in
theorem PUT_mo {x : Option (Int32 × (Nat → Int32) × Nat)} {bl L : Nat} {E : List Int32} (h : PUT x bl L E) : PUT (gx_mo (fun r : Int32 × (Nat → Int32) × Nat => r.2.2) bl x) bl L E := by
  obtain ⟨h', c', bl', e, h1, h2, h3⟩ := h
  exact ⟨h', c', bl', mo_some e h2, h1, h2, h3⟩
set_option maxRecDepth 10000 in
theorem PUT_some {h : Int32} {c : Nat → Int32} {bl L : Nat} {E : List Int32} (hM : MB h c bl E) : PUT (some (h, c, bl)) bl L E := ⟨h, c, bl, rfl, hM, Nat.le_refl _, by omega⟩
set_option maxRecDepth 10000 in
theorem PUT_bind {x : Option (Int32 × (Nat → Int32) × Nat)} {bl L : Nat} {E E' : List Int32} {k : Int32 × (Nat → Int32) × Nat → Option (Int32 × (Nat → Int32) × Nat)} (h : PUT x bl L E) (hk : ∀ h1 c1 bl1, MB h1 c1 bl1 E → bl ≤ bl1 → bl1 ≤ max bl (2 * L) → PUT (k (h1, c1, bl1)) bl1 L E') :
    PUT (x.bind fun u => gx_mo (fun r : Int32 × (Nat → Int32) × Nat => r.2.2) u.2.2 (if bl ≤ u.2.2 then k u else none)) bl L E' := by
  obtain ⟨h1, c1, bl1, e, m1, m2, m3⟩ := h
  rw [e, Option.bind_some]
  dsimp only
  rw [if_pos m2]
  obtain ⟨h2, c2, bl2, e2, n1, n2, n3⟩ := PUT_mo (hk h1 c1 bl1 m1 m2 m3)
  exact ⟨h2, c2, bl2, e2, n1, by omega, by omega⟩
set_option maxRecDepth 10000 in
theorem put23 {c : Nat → Int32} {E : List Int32} (hE : ∀ i x, E[i]? = some x → c i = x) (hb : ∀ x ∈ E, sb x = x) {bl nn : Nat} (h1 : E.length ≤ bl) (h2 : bl ≤ nn) (h3 : nn < 1000000) : ∀ (d i m : Nat) (dd : Nat → Int32), i + d = E.length → d < m → (∀ j x, j < i → E[j]? = some x → dd j = x) → ∃ dd', f_Md_put_23 m (iI i) (iI E.length) c bl nn dd = some dd' ∧ ∀ j x, E[j]? = some x → dd' j = x
  | 0, i, m + 1, dd, hi, hm, hd => by
    rw [f_Md_put_23]
    simp (disch := omega) only [iI_lit, iL_lit, iI_add, iI_sub, iI_mul, iI_neg, iL_add, iL_sub, iL_mul, iL_neg, iI_lt, iI_le, iI_eq, iL_lt, iL_le, iL_eqS, iI_c, iI_ok, iI_l, iL_i, iI_low, l_ushrI, l_shlI, l_shrI, i_shlI, i_shrI, i_ushrI, iI_div, iL_div, Int.toNat_natCast, Int.reduceToNat, iI_ofNat]
    rw [if_pos (by omega)]
    exact ⟨dd, rfl, fun j x hx => hd j x (by have := (List.getElem?_eq_some_iff.mp hx).1; omega) hx⟩
  | d + 1, i, m + 1, dd, hi, hm, hd => by
    rw [f_Md_put_23]
    have hlt : i < E.length := by omega
    have hx := List.getElem?_eq_getElem hlt
    have hci := hE i _ hx
    simp (disch := omega) only [iI_lit, iL_lit, iI_add, iI_sub, iI_mul, iI_neg, iL_add, iL_sub, iL_mul, iL_neg, iI_lt, iI_le, iI_eq, iL_lt, iL_le, iL_eqS, iI_c, iI_ok, iI_l, iL_i, iI_low, l_ushrI, l_shlI, l_shrI, i_shlI, i_shrI, i_ushrI, iI_div, iL_div, Int.toNat_natCast, Int.reduceToNat, iI_ofNat]
    rw [if_neg (by omega), if_pos (by omega), if_pos (by omega), hci, nar_bs, hb _ (List.getElem_mem hlt), show ((i : Int) + 1) = ((i + 1 : Nat) : Int) by omega]
    exact put23 hE hb h1 h2 h3 d (i + 1) m _ (by omega) (by omega) (fun j x hj hjx => by
      by_cases e : j = i
      · subst e; rw [upd_s]; rw [hx] at hjx; exact Option.some.inj hjx
      · rw [upd_n e]; exact hd j x (by omega) hjx)
set_option maxRecDepth 10000 in
theorem put51 {h : Int32} {c : Nat → Int32} {E : List Int32} {bl : Nat} (hh : h = iI E.length) (hl : E.length < bl) (hbl : bl < 1000000) (hE : ∀ i x, E[i]? = some x → c i = x) (hb : ∀ x ∈ E, sb x = x) (x : Int32) : ∃ h' c', f_Md_put_51 x h c bl = some (h', c', bl) ∧ MB h' c' bl (E ++ [sb x]) := by
  subst hh
  unfold f_Md_put_51
  rw [nar_b]
  simp (disch := omega) only [iI_lit, iL_lit, iI_add, iI_sub, iI_mul, iI_neg, iL_add, iL_sub, iL_mul, iL_neg, iI_lt, iI_le, iI_eq, iL_lt, iL_le, iL_eqS, iI_c, iI_ok, iI_l, iL_i, iI_low, l_ushrI, l_shlI, l_shrI, i_shlI, i_shrI, i_ushrI, iI_div, iL_div, Int.toNat_natCast, Int.reduceToNat, iI_ofNat]
  rw [if_pos (by omega)]
  refine ⟨_, _, rfl, by simp, by simp; omega, by omega, fun i y hi => ?_, fun y hy => ?_⟩
  · by_cases e : i < E.length
    · rw [List.getElem?_append_left e] at hi
      rw [upd_n (by omega)]; exact hE i y hi
    · rw [List.getElem?_append_right (by omega)] at hi
      have h0 : i - E.length = 0 := by
        have := (List.getElem?_eq_some_iff.mp hi).1
        simp at this; omega
      rw [h0] at hi
      simp at hi
      rw [show i = E.length by omega, upd_s]; exact hi
  · rcases List.mem_append.mp hy with q | q
    · exact hb y q
    · rw [List.mem_singleton.mp q, sb_sb]
set_option maxRecDepth 10000 in
theorem put_spec {h : Int32} {c : Nat → Int32} {bl L : Nat} {E : List Int32} (hM : MB h c bl E) (hL : E.length < L) (hL2 : L ≤ 200000) (hbl : bl ≤ 400000) (x : Int32) : PUT (f_Md_put x h c bl) bl L (E ++ [sb x]) := by
  obtain ⟨hh, m1, m2, m3, m4⟩ := hM
  unfold f_Md_put
  refine PUT_mo ?_
  rw [iI_ofNat, hh]
  by_cases hf : E.length = bl
  · rw [if_pos (by rw [hf])]
    have hnb : gx_nb (iI E.length) bl = true := by
      unfold gx_nb
      simp (disch := omega) only [iI_lit, iL_lit, iI_add, iI_sub, iI_mul, iI_neg, iL_add, iL_sub, iL_mul, iL_neg, iI_lt, iI_le, iI_eq, iL_lt, iL_le, iL_eqS, iI_c, iI_ok, iI_l, iL_i, iI_low, l_ushrI, l_shlI, l_shrI, i_shlI, i_shrI, i_ushrI, iI_div, iL_div, Int.toNat_natCast, Int.reduceToNat, iI_ofNat]
      simp only [Bool.and_eq_true, decide_eq_true_eq]
      omega
    rw [if_pos hnb]
    obtain ⟨dd, e1, h1⟩ := put23 (bl := bl) (nn := 2 * bl) m3 m4 m1 (by omega) (by omega) E.length 0 gx_fu (fun _ => 0) (by omega) (by have : 100000000 = gx_fu := rfl; omega) (fun j x hj => by omega)
    have e1' : f_Md_put_23 gx_fu 0 (iI ↑E.length) c bl (2 * bl) (fun _ => 0) = some dd := e1
    rw [e1', Option.bind_some]
    obtain ⟨h', c', e2, h2⟩ := put51 (bl := 2 * bl) rfl (by omega) (by omega) h1 m4 x
    exact ⟨h', c', 2 * bl, e2, h2, by omega, by omega⟩
  · rw [if_neg (by rw [iI_eq (by omega) (by omega) (by omega) (by omega)]; omega)]
    obtain ⟨h', c', e2, h2⟩ := put51 (bl := bl) rfl (by omega) (by omega) m3 m4 x
    exact ⟨h', c', bl, e2, h2, by omega, by omega⟩
set_option maxRecDepth 10000 in
theorem put2_loop {o L : Nat} (ho : o < 74) (hL2 : L ≤ 200000) : ∀ (d i m : Nat) (h : Int32) (c : Nat → Int32) (bl : Nat) (E : List Int32), i + d = gl_len.getD o 0 → d < m → MB h c bl E → E.length + d < L → bl ≤ 400000 → PUT (f_Md_put2_2 m o (iI i) h c bl) bl L (E ++ (gl_byt.getD o []).drop i)
  | 0, i, m + 1, h, c, bl, E, hi, hm, hM, hl, hb => by
    rw [f_Md_put2_2]
    have := (lit_ok ho).2.2
    rw [if_pos ho, slen_spec ho, Option.bind_some]
    simp (disch := omega) only [iI_lit, iL_lit, iI_add, iI_sub, iI_mul, iI_neg, iL_add, iL_sub, iL_mul, iL_neg, iI_lt, iI_le, iI_eq, iL_lt, iL_le, iL_eqS, iI_c, iI_ok, iI_l, iL_i, iI_low, l_ushrI, l_shlI, l_shrI, i_shlI, i_shrI, i_ushrI, iI_div, iL_div, Int.toNat_natCast, Int.reduceToNat, iI_ofNat]
    rw [if_pos (by omega), List.drop_eq_nil_of_le (by rw [(lit_ok ho).1]; omega), List.append_nil]
    exact PUT_some hM
  | d + 1, i, m + 1, h, c, bl, E, hi, hm, hM, hl, hb => by
    rw [f_Md_put2_2]
    have := (lit_ok ho).2.2
    have hil : i < (gl_byt.getD o []).length := by rw [(lit_ok ho).1]; omega
    have hsb := ((lit_ok ho).2.1 _ (List.getElem_mem hil)).1
    rw [if_pos ho, slen_spec ho, Option.bind_some, if_pos ho, charAt_spec ho (List.getElem?_eq_getElem hil), Option.bind_some]
    simp (disch := omega) only [iI_lit, iL_lit, iI_add, iI_sub, iI_mul, iI_neg, iL_add, iL_sub, iL_mul, iL_neg, iI_lt, iI_le, iI_eq, iL_lt, iL_le, iL_eqS, iI_c, iI_ok, iI_l, iL_i, iI_low, l_ushrI, l_shlI, l_shrI, i_shlI, i_shrI, i_ushrI, iI_div, iL_div, Int.toNat_natCast, Int.reduceToNat, iI_ofNat]
    rw [if_neg (by omega)]
    refine PUT_bind (put_spec hM (by omega) hL2 hb _) (fun h1 c1 bl1 hM1 hbl1 hbl2 => ?_)
    have := put2_loop ho hL2 d (i + 1) m h1 c1 bl1 _ (by omega) (by omega) hM1 (by simp; omega) (by omega)
    rw [List.append_assoc, hsb, List.singleton_append, List.getElem_cons_drop] at this
    exact this
set_option maxRecDepth 10000 in
theorem mdigit_spec {sz : Int32} {c : Nat → Int32} {n : Nat} {δ : Nat → Nat} (h : DL 1300 sz c n δ) {i : Int} (h1 : -2147483648 ≤ i) (h2 : i < 2147483648) : f_Md_digit (iI i) sz c = some (iI (48 + dg δ i)) := by
  obtain ⟨rfl, q1, q2, q3, q4⟩ := h
  unfold f_Md_digit f_Md_digit_24 dg
  simp (disch := omega) only [iI_lit, iL_lit, iI_add, iI_sub, iI_mul, iI_neg, iL_add, iL_sub, iL_mul, iL_neg, iI_lt, iI_le, iI_eq, iL_lt, iL_le, iL_eqS, iI_c, iI_ok, iI_l, iL_i, iI_low, l_ushrI, l_shlI, l_shrI, i_shlI, i_shrI, i_ushrI, iI_div, iL_div, Int.toNat_natCast, Int.reduceToNat, iI_ofNat]
  by_cases h0 : i < 0
  · rw [if_pos h0, if_neg (by omega)]; rfl
  · rw [if_neg h0, if_pos (show 0 ≤ i by omega)]
    by_cases hn : (n : Int) ≤ i
    · rw [if_pos hn, q3 _ (by omega)]; rfl
    · rw [if_neg hn, if_pos (by omega), q2 _ (by omega), iI_add]
set_option maxRecDepth 10000 in
theorem put2_spec {o L : Nat} (ho : o < 74) (hL2 : L ≤ 200000) {h : Int32} {c : Nat → Int32} {bl : Nat} {E : List Int32} (hM : MB h c bl E) (hl : E.length + gl_len.getD o 0 < L) (hb : bl ≤ 400000) : PUT (f_Md_put2 o h c bl) bl L (E ++ litL o) := by
  unfold f_Md_put2
  refine PUT_mo ?_
  have := (lit_ok ho).2.2
  have := put2_loop ho hL2 (gl_len.getD o 0) 0 gx_fu h c bl E (by omega) (by have := fu_pos; omega) hM hl hb
  rw [List.drop_zero] at this
  exact this
set_option maxRecDepth 10000 in
theorem turn_loop {n : Nat} (hn : n ≤ 72) {c0 : Nat → Int32} (hb : ∀ i, i < n → sb (c0 i) = c0 i) : ∀ (d i m : Nat) (c : Nat → Int32), i + d = n / 2 → d < m → (∀ j, j < n → c j = if j < i ∨ n - 1 - j < i then c0 (n - 1 - j) else c0 j) → ∃ c', f_Md_turn_2 m (iI n) (iI i) c = some c' ∧ ∀ j, j < n → c' j = c0 (n - 1 - j)
  | 0, i, m + 1, c, hi, hm, hc => by
    rw [f_Md_turn_2]
    simp (disch := omega) only [iI_lit, iL_lit, iI_add, iI_sub, iI_mul, iI_neg, iL_add, iL_sub, iL_mul, iL_neg, iI_lt, iI_le, iI_eq, iL_lt, iL_le, iL_eqS, iI_c, iI_ok, iI_l, iL_i, iI_low, l_ushrI, l_shlI, l_shrI, i_shlI, i_shrI, i_ushrI, iI_div, iL_div, Int.toNat_natCast, Int.reduceToNat, iI_ofNat]
    rw [if_pos (by omega)]
    refine ⟨c, rfl, fun j hj => ?_⟩
    rw [hc j hj]
    by_cases q : j < i ∨ n - 1 - j < i
    · rw [if_pos q]
    · rw [if_neg q]; congr 1; omega
  | d + 1, i, m + 1, c, hi, hm, hc => by
    rw [f_Md_turn_2]
    simp only [nar_bs]
    simp (disch := omega) only [iI_lit, iL_lit, iI_add, iI_sub, iI_mul, iI_neg, iL_add, iL_sub, iL_mul, iL_neg, iI_lt, iI_le, iI_eq, iL_lt, iL_le, iL_eqS, iI_c, iI_ok, iI_l, iL_i, iI_low, l_ushrI, l_shlI, l_shrI, i_shlI, i_shrI, i_ushrI, iI_div, iL_div, Int.toNat_natCast, Int.reduceToNat, iI_ofNat]
    rw [if_neg (by omega), if_pos (by omega), if_pos (by omega), if_pos (by omega), if_pos (by omega)]
    have e1 : ((n : Int) - 1 - i).toNat = n - 1 - i := by omega
    rw [e1, show ((i : Int) + 1) = ((i + 1 : Nat) : Int) by omega]
    have h1 := hc i (by omega)
    have h2 := hc (n - 1 - i) (by omega)
    rw [if_neg (by omega)] at h1 h2
    rw [h1, h2, hb _ (by omega), hb _ (by omega)]
    refine turn_loop hn hb d (i + 1) m _ (by omega) (by omega) (fun j hj => ?_)
    by_cases a : j = n - 1 - i
    · rw [a, upd_s, if_pos (by omega)]; congr 1; omega
    · rw [upd_n a]
      by_cases b : j = i
      · rw [b, upd_s, if_pos (by omega)]
      · rw [upd_n b, hc j hj]
        by_cases q : j < i ∨ n - 1 - j < i
        · rw [if_pos q, if_pos (by omega)]
        · rw [if_neg q, if_neg (by omega)]
set_option maxRecDepth 10000 in
theorem turn_spec {n : Nat} (hn : n ≤ 72) {c0 : Nat → Int32} (hb : ∀ i, i < n → sb (c0 i) = c0 i) : ∃ c', f_Md_turn (iI n) c0 = some c' ∧ ∀ j, j < n → c' j = c0 (n - 1 - j) := by
  unfold f_Md_turn
  exact turn_loop hn hb (n / 2) 0 gx_fu c0 (by omega) (by have := fu_pos; omega) (fun j hj => by rw [if_neg (by omega)])
set_option maxRecDepth 10000 in
def nd1 (A : Nat) : Nat := if A = 0 then 1 else nd A
set_option maxRecDepth 10000 in
def spL (v : Int) : List Int32 := (if v < 0 then [iI 45] else []) ++ (List.range' 0 (nd1 v.natAbs)).map (fun i : Nat => iI (48 + (v.natAbs / 10 ^ (nd1 v.natAbs - 1 - i) % 10 : Nat)))
set_option maxRecDepth 10000 in
theorem td10 {x : Int} (h1 : -9223372036854775808 ≤ x) (h2 : x < 9223372036854775808) : iL x / iL 10 = iL (x.tdiv 10) ∧ (x.tdiv 10).natAbs = x.natAbs / 10 ∧ (x - x.tdiv 10 * 10).natAbs = x.natAbs % 10 ∧ (0 ≤ x → 0 ≤ x - x.tdiv 10 * 10) ∧ (x ≤ 0 → x - x.tdiv 10 * 10 ≤ 0) ∧ -9223372036854775808 ≤ x.tdiv 10 ∧ x.tdiv 10 < 9223372036854775808 := by
  refine ⟨iL_tdiv h1 h2 (by decide) (by decide), ?_⟩
  by_cases h : 0 ≤ x
  · rw [Int.tdiv_eq_ediv_of_nonneg h]
    omega
  · have e : x.tdiv 10 = -((-x) / 10) := by
      have := Int.neg_tdiv (-x) 10
      rw [Int.neg_neg] at this
      rw [this, Int.tdiv_eq_ediv_of_nonneg (by omega)]
    rw [e]
    omega
