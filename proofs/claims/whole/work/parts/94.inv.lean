/-! the invariant of the law's loop: both sides hold the same tape, result, arguments and formats -/
def I_T (tl to : Int32) (tc : Nat → Int32) (t : Int32) (c : Nat → Int32) (E : List Int32) : Prop := BY 65536 tl to tc E ∧ E.length ≤ 65536 ∧ TP t c E
def I_R (rl ro : Int32) (rc : Nat → Int32) (ml : Int32) (mc : Nat → Int32) (R : List Int32) : Prop := BY 32768 rl ro rc R ∧ R.length ≤ 32768 ∧ ml = iI R.length ∧ ∀ j x, R[j]? = some x → mc j = x
def I_A (sz szm : Int32) (kc : Nat → Int32) (vc : Nat → Int64) (tl tv : Nat → Int32) (tc : Nat → Nat → Int32) (km : Nat → Int32) (vm : Nat → Int64) (lm : Nat → Int32) (tm : Nat → Nat → Int32) (A : List AgT) : Prop := AG sz szm kc vc tl tv tc km vm lm tm A ∧ ∀ a ∈ A, a.1 = iI 1 → a.2.1 = iL 0 ∨ a.2.1 = iL 1
def I_F1 (x : FmV) (th lm : Int32) (ec : Nat → Int32) : Prop := (∃ T, BY 1000 (f3 x) (f4 x) (f5 x) T) ∧ ((th = 0 ∧ f1 x = 0) ∨ (th = 1 ∧ f1 x ≠ 0 ∧ ∃ X, FOK X ∧ BY 1000 (f3 x) (f4 x) (f5 x) X ∧ FMG X (f9 x) (f12 x) (f10 x) (f11 x) (f8 x) (f6 x) (f7 x) (dirL X).1 ∧ f0 x = iI ((dirL X).1.length : Nat) ∧ lm = iI X.length ∧ TP (iI X.length) ec X))
def I_F (fm : Nat → FmV) (fc : Int32) (lm th : Nat → Int32) (fx : Nat → Nat → Int32) : Prop := (∀ f, f < 8 → I_F1 (fm f) (th f) (lm f) (fx f)) ∧ (∃ T, BY 1000 (f3 (fm 8)) (f4 (fm 8)) (f5 (fm 8)) T) ∧ fc = iI (cntT th 8)
def INV (v : NV) (w : MV) : Prop := ∃ E R A, I_T (n2 v) (n3 v) (n4 v) (m0 w) (m29 w) E ∧ I_R (n5 v) (n6 v) (n7 v) (m1 w) (m30 w) R ∧ I_A (n8 v) (m17 w) (n9 v) (n10 v) (n75 v) (n76 v) (n77 v) (m53 w) (m54 w) (m55 w) (m61 w) A ∧ I_F (n74 v) (n0 v) (m56 w) (m57 w) (m62 w) ∧ n1 v = m3 w ∧ LN (n68 v) ∧ LN (n71 v) ∧ (0 < m60 w ∧ m60 w ≤ 140000)
theorem INV_mk {v : NV} {w : MV} (E R : List Int32) (A : List AgT) (a : I_T (n2 v) (n3 v) (n4 v) (m0 w) (m29 w) E) (b : I_R (n5 v) (n6 v) (n7 v) (m1 w) (m30 w) R) (c : I_A (n8 v) (m17 w) (n9 v) (n10 v) (n75 v) (n76 v) (n77 v) (m53 w) (m54 w) (m55 w) (m61 w) A) (d : I_F (n74 v) (n0 v) (m56 w) (m57 w) (m62 w)) (e : n1 v = m3 w) (h : LN (n68 v)) (i : LN (n71 v)) (j : 0 < m60 w ∧ m60 w ≤ 140000) : INV v w := ⟨E, R, A, a, b, c, d, e, h, i, j⟩
theorem TP_cast {t : Int32} {c c' : Nat → Int32} {E : List Int32} (h : c = c') (h2 : TP t c' E) : TP t c E := by
  subst h
  exact h2
theorem IT_nil {tc c : Nat → Int32} {t : Int32} (h : t = iI 0) : I_T (iI 0) (iI 0) tc t c [] := ⟨BY_nil _ _, Nat.zero_le _, h, fun i x hx => by simp at hx, fun x hx => by simp at hx⟩
theorem IT_of {tl to t : Int32} {tc c : Nat → Int32} (h : BY 65536 tl to tc []) (h2 : t = iI 0) : I_T tl to tc t c [] := ⟨h, Nat.zero_le _, h2, fun i x hx => by simp at hx, fun x hx => by simp at hx⟩
theorem fB_none {X : List Int32} : ∀ {L : List Nat}, fB X L = none → ∀ k ∈ L, ¬ BARX X k
  | [], _, k, hk => absurd hk List.not_mem_nil
  | a :: t, h, k, hk => by
    unfold fB at h
    by_cases q : BARX X a
    · rw [if_pos q] at h; cases h
    · rw [if_neg q] at h
      rcases List.mem_cons.mp hk with e | e
      · rw [e]; exact q
      · exact fB_none h k e
theorem FMC_of {X : List Int32} {A : List AgT} (hO : FOK X) {fcv ffl fwd fpr fix pc_ ac_ : Nat → Int32} (hG : FMG X fwd fix fpr fcv ffl pc_ ac_ (dirL X).1) : FMC X A (dirL X).1 fcv ffl fwd fpr fix pc_ ac_ := ⟨by unfold dirL; exact dirs_good X _ _, fB_none hO.2.2, hG, dirL_b hO.1⟩
theorem cntT_upd (th : Nat → Int32) {f : Nat} {x : Int32} (hx : ¬ x = 0) : ∀ n, cntT (upd th f x) n = cntT th n + (if f < n ∧ th f = 0 then 1 else 0)
  | 0 => by simp [cntT]
  | n + 1 => by
    have ih := cntT_upd th (f := f) hx n
    show cntT (upd th f x) n + (if upd th f x n = 0 then 0 else 1) = cntT th n + (if th n = 0 then 0 else 1) + (if f < n + 1 ∧ th f = 0 then 1 else 0)
    rw [ih]
    by_cases q : n = f
    · subst q
      rw [upd_s, if_neg hx, if_neg (show ¬ (n < n ∧ th n = 0) by omega)]
      by_cases t : th n = 0
      · rw [if_pos t, if_pos (show n < n + 1 ∧ th n = 0 from ⟨by omega, t⟩)]
      · rw [if_neg t, if_neg (show ¬ (n < n + 1 ∧ th n = 0) from fun y => t y.2)]
    · rw [upd_n q]
      by_cases t : f < n ∧ th f = 0
      · rw [if_pos t, if_pos (show f < n + 1 ∧ th f = 0 from ⟨by omega, t.2⟩)]; omega
      · rw [if_neg t, if_neg (show ¬ (f < n + 1 ∧ th f = 0) from fun y => t ⟨by omega, y.2⟩)]; omega
theorem IF_spare {fm : Nat → FmV} {fc : Int32} {lm th lm' th' ec' : Nat → Int32} {fx : Nat → Nat → Int32} {x8 : FmV} {f : Nat} (h : I_F fm fc lm th fx) (h8 : ∃ T, BY 1000 (f3 x8) (f4 x8) (f5 x8) T) (e1 : lm' = lm) (e2 : th' = th) (e3 : ec' = fx f) : I_F (va_up fm 8 x8) fc lm' th' (va_up fx f ec') := by
  subst e1 e2 e3
  refine ⟨fun j hj => ?_, ?_, h.2.2⟩
  · have a : va_up fx f (fx f) j = fx j := by
      by_cases q : j = f
      · subst q; rw [vu_s]
      · rw [vu_n q]
    rw [a, vu_n (show j ≠ 8 by omega)]
    exact h.1 j hj
  · rw [vu_s]; exact h8
theorem IF_same {fm : Nat → FmV} {fc : Int32} {lm th lm' th' ec' : Nat → Int32} {fx : Nat → Nat → Int32} {f : Nat} (h : I_F fm fc lm th fx) (e1 : lm' = lm) (e2 : th' = th) (e3 : ec' = fx f) : I_F fm fc lm' th' (va_up fx f ec') := by
  subst e1 e2 e3
  refine ⟨fun j hj => ?_, h.2⟩
  have a : va_up fx f (fx f) j = fx j := by
    by_cases q : j = f
    · subst q; rw [vu_s]
    · rw [vu_n q]
  rw [a]
  exact h.1 j hj
theorem IF_new {fm : Nat → FmV} {fc fc' : Int32} {lm th lm' th' ec' : Nat → Int32} {fx : Nat → Nat → Int32} {x8 : FmV} {f : Nat} (hf : f < 8) (h : I_F fm fc lm th fx) {X : List Int32} (hX : FOK X) (hB : BY 1000 (f3 x8) (f4 x8) (f5 x8) X) (hG : FMG X (f9 x8) (f12 x8) (f10 x8) (f11 x8) (f8 x8) (f6 x8) (f7 x8) (dirL X).1) (h0 : f0 x8 = iI ((dirL X).1.length : Nat)) (h1 : f1 x8 = 1) (e1 : lm' = upd lm f (iI X.length)) (e2 : th' = upd th f (vp_nar .boolean 1)) (e3 : TP (iI X.length) ec' X) (e4 : fc' = if f1 (fm f) = 0 then fc + 1 else fc) : I_F (fun x => if x = f then x8 else if x = 8 then fm f else fm x) fc' lm' th' (va_up fx f ec') := by
  have v1 : vp_nar .boolean 1 = (1 : Int32) := rfl
  subst e1 e2 e4
  refine ⟨fun j hj => ?_, ?_, ?_⟩
  · by_cases q : j = f
    · subst q
      show I_F1 (if j = j then x8 else if j = 8 then fm j else fm j) (upd th j (vp_nar .boolean 1) j) (upd lm j (iI X.length) j) (va_up fx j ec' j)
      rw [if_pos rfl, upd_s, upd_s, vu_s]
      exact ⟨⟨X, hB⟩, Or.inr ⟨v1, by rw [h1]; decide, X, hX, hB, hG, h0, rfl, e3⟩⟩
    · show I_F1 (if j = f then x8 else if j = 8 then fm f else fm j) (upd th f (vp_nar .boolean 1) j) (upd lm f (iI X.length) j) (va_up fx f ec' j)
      rw [if_neg q, if_neg (show ¬ j = 8 by omega), upd_n q, upd_n q, vu_n q]
      exact h.1 j hj
  · show ∃ T, BY 1000 (f3 (if 8 = f then x8 else if 8 = 8 then fm f else fm 8)) (f4 (if 8 = f then x8 else if 8 = 8 then fm f else fm 8)) (f5 (if 8 = f then x8 else if 8 = 8 then fm f else fm 8)) T
    rw [if_neg (show ¬ 8 = f by omega), if_pos rfl]
    exact (h.1 f hf).1
  · have hc := cntT_upd th (f := f) (x := vp_nar .boolean 1) (by rw [v1]; decide) 8
    rcases (h.1 f hf).2 with ⟨t0, p0⟩ | ⟨t1, p1, _⟩
    · rw [if_pos p0, h.2.2, hc, if_pos ⟨hf, t0⟩, show (1 : Int32) = iI 1 from rfl, iI_add]
      rfl
    · rw [if_neg p1, h.2.2, hc, if_neg (show ¬ (f < 8 ∧ th f = 0) from fun y => absurd y.2 (by rw [t1]; decide))]
      rfl
theorem AGC_of {sz szm : Int32} {kc : Nat → Int32} {vc : Nat → Int64} {tl tv : Nat → Int32} {tc : Nat → Nat → Int32} {km : Nat → Int32} {vm : Nat → Int64} {lm : Nat → Int32} {tm : Nat → Nat → Int32} {A : List AgT} (h : I_A sz szm kc vc tl tv tc km vm lm tm A) : AGC kc vc tl tv tc A := ⟨h.1.le, fun i a hi => (h.1.kd i a hi).1, fun i a hi h7 => (h.1.vl i a hi h7).1, fun i a hi h7 => ⟨(h.1.tx i a hi h7).1, (h.1.tx i a hi h7).2.1⟩, h.2⟩
theorem STP_out {T Q : List Int32} {P : List Int32 → Prop} {co pl : Int} {C : Prop} (h : STP T Q P co pl) (h5 : co = 5 → C) (hp : P (T ++ Q) → C) : C := by
  unfold STP at h
  by_cases q : 32768 < (T ++ Q).length
  · rw [if_pos q] at h; exact h5 h.1
  · rw [if_neg q] at h; exact hp h
theorem RF_out {X : List Int32} {A : List AgT} {co pl : Int} {R : List Int32} : ∀ (L : List Nat) (fr : Nat) (nx sm : Int) (E : List Int32), RF X A L fr nx sm E co pl R → (co = 0 ∧ pl = -1) ∨ co = 3 ∨ co = 4 ∨ co = 5
  | [], fr, nx, sm, E, h => by
    unfold RF at h
    by_cases q : (E ++ X.drop fr).length ≤ 32768
    · rw [if_pos q] at h; exact Or.inl ⟨h.1, h.2.1⟩
    · rw [if_neg q] at h; exact Or.inr (Or.inr (Or.inr h.1))
  | k :: t, fr, nx, sm, E, h => by
    have h5 : co = 5 → (co = 0 ∧ pl = -1) ∨ co = 3 ∨ co = 4 ∨ co = 5 := fun y => Or.inr (Or.inr (Or.inr y))
    unfold RF at h
    by_cases q1 : 32768 < (E ++ (X.take k).drop fr).length
    · rw [if_pos q1] at h; exact h5 h.1
    · rw [if_neg q1] at h
      by_cases q2 : dCv X (k + 1) = 110
      · rw [if_pos q2] at h; exact STP_out h h5 (fun y => RF_out t _ _ _ _ y)
      · rw [if_neg q2] at h
        by_cases q3 : dCv X (k + 1) = 37
        · rw [if_pos q3] at h; exact STP_out h h5 (fun y => RF_out t _ _ _ _ y)
        · rw [if_neg q3] at h
          by_cases q4 : ¬ (0 ≤ tkA X k nx sm ∧ tkA X k nx sm < A.length)
          · rw [if_pos q4] at h; exact Or.inr (Or.inl h.1)
          · rw [if_neg q4] at h
            obtain ⟨kd, v, u, ag, _, _, h⟩ := h
            by_cases q5 : ¬ FITC (dCv X (k + 1)) kd v
            · rw [if_pos q5] at h; exact Or.inr (Or.inr (Or.inl h.1))
            · rw [if_neg q5] at h
              obtain ⟨fc, Q, _, _, h⟩ := h
              exact STP_out h h5 (fun y => RF_out t _ _ _ _ y)
theorem th_ok (l : Launch) (z : State) (D : va_G) (g : Nat → ClassId) (om : Nat) (u : Nat → Nat) (qb : Nat) (w : MV) : LwX (X := Unit) l z D g y_Md_thrown b_Md_thrown 1 0 0 0 om [] (wMD g om u qb w) (fun _ => wMD g om u qb w) (m2 w) := cs_c_Md_thrown l z D g om u qb w (m2 w) rfl
