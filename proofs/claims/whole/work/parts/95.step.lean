/-! one step of the law, case by case -/
set_option maxHeartbeats 4000000 in
set_option maxRecDepth 100000 in
theorem st_0 {l : Launch} {z : State} (hH : gx_H l z) (D : va_G) (g : Nat → ClassId) (o : Nat) (q : Nat → Nat) (fq : Nat → Nat → Nat) (out : Nat) (oc : Nat → Int64) (om : Nat) (u : Nat → Nat) (qb : Nat) {v : NV} {w : MV} (I : INV v w) (x1 : Int32) (x2 : Int32) (x3 : Int32) (x4 : Int32) (x5 : Int32) : ∃ (X : Type) (fr lo k : Nat) (kc bm : Int32) (fq' : Nat → Nat → Nat) (oc' : Nat → Int64) (v' : NV) (qx : X → Nat) (w' : X → MV), LwH l z D g ({ cls := "NumberTextLaw", name := "feed", desc := "(LNumberText;IIIII[J)I" } : MethodName) method_3_code 8 [(0, 16, 19, 13)] fr lo [.ref o, .int x1, .int x2, .int x3, .int x4, .int x5, .ref out] (wCL g o q fq out oc v) (wCL g o q fq' out oc' v') kc ∧ (Nat.ble (fr + 1) room_1.frames && Nat.ble (8 + (8 + 11) + lo) room_1.locals) = true ∧ LwX l z D g y_Md_feed b_Md_feed 6 1 22 k om [.int x1, .int x2, .int x3, .int x4, .int x5] (wMD g om u qb w) (fun t : X => wMD g om u (qx t) (w' t)) bm ∧ (∀ t, m2 (w' t) = kc) ∧ (kc = 0 → oc' (0 : Int32).toNatClampNeg = bm.toInt64) ∧ (∀ t, INV v' (w' t)) ∧ (∀ t, m60 (w' t) = m60 w + k) ∧ m60 w + k ≤ 140000 := by
  obtain ⟨E, R, A, hT, hR, hA, hFo, hp, hh, hb, hbl⟩ := I
  by_cases hl : E.length ≤ 65516
  · obtain ⟨l', o', c', t', c2, e1, e2, b1, b2⟩ := feed_ok hT.1 hT.2.2 hl x1 x2 x3 x4 x5 (m2 w)
    have h20 : (E ++ fiveE x1 x2 x3 x4 x5).length ≤ 65536 := by
      rw [List.length_append, show (fiveE x1 x2 x3 x4 x5).length = 20 from rfl]; omega
    exact ⟨Unit, 3, 67, 0, 0, l', fq, _, _, _, _, cs_ch_feed l z D g o q fq out oc v x1 x2 x3 x4 x5 _ e1, rfl, cs_c_Md_feed l z D g om u qb w x1 x2 x3 x4 x5 _ e2, fun _ => rfl, fun _ => updL_s _ _ _, fun _ => INV_mk _ R A ⟨b1, h20, b2⟩ hR hA hFo hp hh hb hbl, fun _ => rfl, hbl.2⟩
  · obtain ⟨e1, e2⟩ := feed_no hT.1 hT.2.2 (by omega) hT.2.1 x1 x2 x3 x4 x5 (m2 w)
    exact ⟨Unit, 7, 115, 0, 1, iI 0, fq, _, _, _, _, cs_cht_feed_1 l z D g o q fq out oc v hH x1 x2 x3 x4 x5 _ e1 rfl, rfl, cs_c_Md_feed l z D g om u qb w x1 x2 x3 x4 x5 _ e2, fun _ => rfl, fun h => absurd h (by decide), fun _ => INV_mk E R A hT hR hA hFo hp hh hb hbl, fun _ => rfl, hbl.2⟩
set_option maxHeartbeats 4000000 in
set_option maxRecDepth 100000 in
theorem st_1 {l : Launch} {z : State} (hH : gx_H l z) (D : va_G) (g : Nat → ClassId) (o : Nat) (q : Nat → Nat) (fq : Nat → Nat → Nat) (out : Nat) (oc : Nat → Int64) (om : Nat) (u : Nat → Nat) (qb : Nat) {v : NV} {w : MV} (I : INV v w) (x1 : Int32) : ∃ (X : Type) (fr lo k : Nat) (kc bm : Int32) (fq' : Nat → Nat → Nat) (oc' : Nat → Int64) (v' : NV) (qx : X → Nat) (w' : X → MV), LwH l z D g ({ cls := "NumberTextLaw", name := "end", desc := "(LNumberText;I[J)I" } : MethodName) method_4_code 4 [(0, 9, 12, 19)] fr lo [.ref o, .int x1, .ref out] (wCL g o q fq out oc v) (wCL g o q fq' out oc' v') kc ∧ (Nat.ble (fr + 1) room_1.frames && Nat.ble (8 + (4 + 11) + lo) room_1.locals) = true ∧ LwX l z D g y_Md_end b_Md_end 2 1 22 k om [.int x1] (wMD g om u qb w) (fun t : X => wMD g om u (qx t) (w' t)) bm ∧ (∀ t, m2 (w' t) = kc) ∧ (kc = 0 → oc' (0 : Int32).toNatClampNeg = bm.toInt64) ∧ (∀ t, INV v' (w' t)) ∧ (∀ t, m60 (w' t) = m60 w + k) ∧ m60 w + k ≤ 140000 := by
  obtain ⟨E, R, A, hT, hR, hA, hFo, hp, hh, hb, hbl⟩ := I
  obtain ⟨a, a0, a1, rfl⟩ := iI_ex x1
  by_cases h : 0 ≤ a ∧ a ≤ E.length
  · obtain ⟨l', o', e1, e2, b1, b2⟩ := end_ok hT.1 hT.2.2 hT.2.1 h.1 h.2 (m2 w)
    have ht : (E.take a.toNat).length ≤ 65536 := by have := hT.2.1; rw [List.length_take]; omega
    exact ⟨Unit, 3, 63, 0, 0, iI a, fq, _, _, _, _, cs_ch_end l z D g o q fq out oc v (iI a) _ e1, rfl, cs_c_Md_end l z D g om u qb w (iI a) _ e2, fun _ => rfl, fun _ => updL_s _ _ _, fun _ => INV_mk _ R A ⟨b1, ht, b2⟩ hR hA hFo hp hh hb hbl, fun _ => rfl, hbl.2⟩
  · obtain ⟨e1, e2⟩ := end_no hT.1 hT.2.2 hT.2.1 a0 a1 (by omega) (m2 w)
    exact ⟨Unit, 7, 111, 0, 1, iI 0, fq, _, _, _, _, cs_cht_end_1 l z D g o q fq out oc v hH (iI a) _ e1 rfl, rfl, cs_c_Md_end l z D g om u qb w (iI a) _ e2, fun _ => rfl, fun h => absurd h (by decide), fun _ => INV_mk E R A hT hR hA hFo hp hh hb hbl, fun _ => rfl, hbl.2⟩
set_option maxHeartbeats 4000000 in
set_option maxRecDepth 100000 in
theorem st_2 {l : Launch} {z : State} (hH : gx_H l z) (D : va_G) (g : Nat → ClassId) (o : Nat) (q : Nat → Nat) (fq : Nat → Nat → Nat) (out : Nat) (oc : Nat → Int64) (om : Nat) (u : Nat → Nat) (qb : Nat) {v : NV} {w : MV} (I : INV v w) (y1 : Int64) : ∃ (X : Type) (k : Nat) (kc bm : Int32) (v' : NV) (qx : X → Nat) (w' : X → MV), LwX (X := Unit) l z D g y_Nt_print b_Nt_print 3 7 150 0 o [.long y1] (wCL g o q fq out oc v) (fun _ => wCL g o q fq out oc v') kc ∧ LwX l z D g y_Md_print b_Md_print 3 6 131 k om [.long y1] (wMD g om u qb w) (fun t : X => wMD g om u (qx t) (w' t)) bm ∧ kc = bm ∧ (∀ t, INV v' (w' t)) ∧ (∀ t, m60 (w' t) = m60 w + k) ∧ m60 w + k ≤ 140000 := by
  obtain ⟨E, R, A, hT, hR, hA, hFo, hp, hh, hb, hbl⟩ := I
  obtain ⟨F, r, hM, e2, r1, -, -, rl, -, rF, rb, rb2⟩ := mprint (u := u6 y1) (bi := m4 w) (le := m5 w) (us := m6 w) (rn0 := m32 w) (d0 := m34 w) (lc := m31 w) (rn1 := m38 w) (d1 := m40 w) (rn2 := m35 w) (d2 := m37 w) (rp0 := m33 w) (dn := m41 w) (dc := m43 w) (dp := m42 w) (un := m44 w) (uc := m46 w) (up_ := m45 w) (rp2 := m36 w) (rp1 := m39 w) (hd := m7 w) (sp := m47 w) (ln := m1 w) (co := m2 w) (rc := m30 w) (c := m59 w) (bl := m60 w) ⟨u6_0 y1, by rw [if_pos rfl]; exact u6_l y1⟩ hbl.1 (by omega)
  obtain ⟨G, s, hW, e1, s1, -, -, -, -, sB⟩ := ntprint (u := u6 y1) (n := 32768) (na := n28 v) (len := n5 v) (ng := n27 v) (inf := n29 v) (bc := n30 v) (bq := n31 v) (op := n32 v) (vs := n39 v) (vc := n40 v) (us := n43 v) (uc := n44 v) (sz := n26 v) (ws := n45 v) (wc := n46 v) (ts := n41 v) (tc := n42 v) (ds := n33 v) (dp := n34 v) (dc := n38 v) (rs := n47 v) (rc := n48 v) (over := n6 v) (cc := n7 v) (u6_0 y1) (u6_l y1) (by omega) hR.1
  have hFG : G = F := sh_uniq (by omega) (u6_0 y1) hW hM
  subst hFG
  have hlen := shM_len (s := 0) (by omega) hM
  rw [l_u6] at e1 e2
  have hk : s.1 = r.1 := by rw [s1, r1, sB.1]; congr 2; omega
  exact ⟨Nat, _, s.1, r.1, _, _, _, cs_c_Nt_print l z D g o q fq out oc v y1 s e1, cs_c_Md_print l z D g om u qb w y1 r e2, hk, fun _ => INV_mk E G A hT ⟨sB, by omega, rl, rF⟩ hA hFo hp hh hb ⟨Nat.lt_of_lt_of_le hbl.1 rb, Nat.le_trans rb2 (by omega)⟩, fun _ => (Nat.add_sub_of_le rb).symm, Nat.le_trans (Nat.le_of_eq (Nat.add_sub_of_le rb)) (Nat.le_trans rb2 (by omega))⟩
set_option maxHeartbeats 4000000 in
set_option maxRecDepth 100000 in
theorem st_3 {l : Launch} {z : State} (hH : gx_H l z) (D : va_G) (g : Nat → ClassId) (o : Nat) (q : Nat → Nat) (fq : Nat → Nat → Nat) (out : Nat) (oc : Nat → Int64) (om : Nat) (u : Nat → Nat) (qb : Nat) {v : NV} {w : MV} (I : INV v w) (x1 : Int32) : ∃ (X : Type) (k : Nat) (kc bm : Int32) (v' : NV) (qx : X → Nat) (w' : X → MV), LwX (X := Unit) l z D g y_Nt_printFloat b_Nt_printFloat 2 7 150 0 o [.int x1] (wCL g o q fq out oc v) (fun _ => wCL g o q fq out oc v') kc ∧ LwX l z D g y_Md_printFloat b_Md_printFloat 2 6 131 k om [.int x1] (wMD g om u qb w) (fun t : X => wMD g om u (qx t) (w' t)) bm ∧ kc = bm ∧ (∀ t, INV v' (w' t)) ∧ (∀ t, m60 (w' t) = m60 w + k) ∧ m60 w + k ≤ 140000 := by
  obtain ⟨E, R, A, hT, hR, hA, hFo, hp, hh, hb, hbl⟩ := I
  obtain ⟨y, y0, y1, rfl⟩ := iI_ex x1
  obtain ⟨F, r, hM, e2, r1, -, -, rl, -, rF, rb, rb2⟩ := mprintF (x := y) (u := y % 4294967296) (bi := m4 w) (le := m5 w) (us := m6 w) (rn0 := m32 w) (d0 := m34 w) (lc := m31 w) (rn1 := m38 w) (d1 := m40 w) (rn2 := m35 w) (d2 := m37 w) (rp0 := m33 w) (dn := m41 w) (dc := m43 w) (dp := m42 w) (un := m44 w) (uc := m46 w) (up_ := m45 w) (rp2 := m36 w) (rp1 := m39 w) (hd := m7 w) (sp := m47 w) (ln := m1 w) (co := m2 w) (rc := m30 w) (c := m59 w) (bl := m60 w) y0 y1 rfl hbl.1 (by omega)
  obtain ⟨G, s, hW, e1, s1, -, -, -, -, sB⟩ := ntprintF (y := y) (u := y % 4294967296) (n := 32768) (na := n28 v) (len := n5 v) (ng := n27 v) (inf := n29 v) (bc := n30 v) (bq := n31 v) (op := n32 v) (vs := n39 v) (vc := n40 v) (us := n43 v) (uc := n44 v) (sz := n26 v) (ws := n45 v) (wc := n46 v) (ts := n41 v) (tc := n42 v) (ds := n33 v) (dp := n34 v) (dc := n38 v) (rs := n47 v) (rc := n48 v) (over := n6 v) (cc := n7 v) y0 y1 rfl (by omega) hR.1
  have hFG : G = F := sh_uniq (by omega) (Int.emod_nonneg _ (by decide)) hW hM
  subst hFG
  have hlen := shM_len (s := 1) (by omega) hM
  have hk : s.1 = r.1 := by rw [s1, r1, sB.1]; congr 2; omega
  exact ⟨Nat, _, s.1, r.1, _, _, _, cs_c_Nt_printFloat l z D g o q fq out oc v (iI y) s e1, cs_c_Md_printFloat l z D g om u qb w (iI y) r e2, hk, fun _ => INV_mk E G A hT ⟨sB, by omega, rl, rF⟩ hA hFo hp hh hb ⟨Nat.lt_of_lt_of_le hbl.1 rb, Nat.le_trans rb2 (by omega)⟩, fun _ => (Nat.add_sub_of_le rb).symm, Nat.le_trans (Nat.le_of_eq (Nat.add_sub_of_le rb)) (Nat.le_trans rb2 (by omega))⟩
set_option maxHeartbeats 4000000 in
set_option maxRecDepth 100000 in
theorem st_4 {l : Launch} {z : State} (hH : gx_H l z) (D : va_G) (g : Nat → ClassId) (o : Nat) (q : Nat → Nat) (fq : Nat → Nat → Nat) (out : Nat) (oc : Nat → Int64) (om : Nat) (u : Nat → Nat) (qb : Nat) {v : NV} {w : MV} (I : INV v w)  : ∃ (fr lo : Nat) (kc : Int32) (bm : Int64) (fq' : Nat → Nat → Nat) (oc' : Nat → Int64) (v' : NV) (w' : MV), LwH l z D g ({ cls := "NumberTextLaw", name := "parse", desc := "(LNumberText;[J)I" } : MethodName) method_5_code 3 [(0, 7, 10, 25)] fr lo [.ref o, .ref out] (wCL g o q fq out oc v) (wCL g o q fq' out oc' v') kc ∧ (Nat.ble (fr + 1) room_1.frames && Nat.ble (8 + (3 + 11) + lo) room_1.locals) = true ∧ LwL l z D g y_Md_parse b_Md_parse 1 6 134 om [] (wMD g om u qb w) (wMD g om u qb w') bm ∧ m2 w' = kc ∧ (kc = 0 → oc' (0 : Int32).toNatClampNeg = bm) ∧ INV v' w' ∧ m60 w' = m60 w := by
  obtain ⟨E, R, A, hT, hR, hA, hFo, hp, hh, hb, hbl⟩ := I
  by_cases hk : okP E (tZ E) (tI E)
  · obtain ⟨vv, a1, a2, a3, a4, a5, a6, a7, a8, a9, a10, a11, a12, a13, a14, a15, b1, b2, b3, b4, b5, b6, b7, b8, b9, b10, b11, b12, b13, e1, e2⟩ := parse_ok (at_ := n11 v) (st := n12 v) (ng := n14 v) (ns := n22 v) (nc := n23 v) (ke := n17 v) (po := n16 v) (ch := n20 v) (un := n21 v) (ex := n19 v) (lo := n18 v) (ds := n24 v) (dc := n25 v) (ma := n15 v) (fo := n13 v) (mat := m10 w) (mst := m11 w) (mdc := m8 w) (mpt := m9 w) (mbi := m4 w) (mle := m5 w) (mus := m6 w) (mhn := m38 w) (mhd := m40 w) (mlc := m31 w) (mhp := m39 w) (mdg := m48 w) (men := m32 w) (med := m34 w) (mep := m33 w) (mco := m2 w) hT.1 hT.2.1 hT.2.2 hk
    exact ⟨7, 154, 0, vv, fq, _, _, _, cs_ch_parse l z D g o q fq out oc v _ e1, rfl, cs_c_Md_parse l z D g om u qb w _ e2, rfl, fun _ => updL_s _ _ _, INV_mk [] R A (IT_nil rfl) hR hA hFo hp hh hb hbl, rfl⟩
  · obtain ⟨a1, a2, a3, a4, a5, a6, a7, a8, a9, a10, a11, a12, a13, a14, a15, b1, b2, b3, b4, b5, b6, b7, b8, b9, b10, b11, b12, b13, e1, e2⟩ := parse_no (at_ := n11 v) (st := n12 v) (ng := n14 v) (ns := n22 v) (nc := n23 v) (ke := n17 v) (po := n16 v) (ch := n20 v) (un := n21 v) (ex := n19 v) (lo := n18 v) (ds := n24 v) (dc := n25 v) (ma := n15 v) (fo := n13 v) (mat := m10 w) (mst := m11 w) (mdc := m8 w) (mpt := m9 w) (mbi := m4 w) (mle := m5 w) (mus := m6 w) (mhn := m38 w) (mhd := m40 w) (mlc := m31 w) (mhp := m39 w) (mdg := m48 w) (men := m32 w) (med := m34 w) (mep := m33 w) (mco := m2 w) hT.1 hT.2.1 hT.2.2 hk
    exact ⟨7, 154, 1, iL 0, fq, _, _, _, cs_cht_parse_1 l z D g o q fq out oc v hH _ e1 rfl, rfl, cs_c_Md_parse l z D g om u qb w _ e2, rfl, fun h => absurd h (by decide), INV_mk [] R A (IT_nil rfl) hR hA hFo hp hh hb hbl, rfl⟩
set_option maxHeartbeats 4000000 in
set_option maxRecDepth 100000 in
theorem st_5 {l : Launch} {z : State} (hH : gx_H l z) (D : va_G) (g : Nat → ClassId) (o : Nat) (q : Nat → Nat) (fq : Nat → Nat → Nat) (out : Nat) (oc : Nat → Int64) (om : Nat) (u : Nat → Nat) (qb : Nat) {v : NV} {w : MV} (I : INV v w)  : ∃ (X : Type) (fr lo k : Nat) (kc bm : Int32) (fq' : Nat → Nat → Nat) (oc' : Nat → Int64) (v' : NV) (qx : X → Nat) (w' : X → MV), LwH l z D g ({ cls := "NumberTextLaw", name := "parseFloat", desc := "(LNumberText;[J)I" } : MethodName) method_6_code 3 [(0, 8, 11, 25)] fr lo [.ref o, .ref out] (wCL g o q fq out oc v) (wCL g o q fq' out oc' v') kc ∧ (Nat.ble (fr + 1) room_1.frames && Nat.ble (8 + (3 + 11) + lo) room_1.locals) = true ∧ LwX l z D g y_Md_parseFloat b_Md_parseFloat 1 6 134 k om [] (wMD g om u qb w) (fun t : X => wMD g om u (qx t) (w' t)) bm ∧ (∀ t, m2 (w' t) = kc) ∧ (kc = 0 → oc' (0 : Int32).toNatClampNeg = bm.toInt64) ∧ (∀ t, INV v' (w' t)) ∧ (∀ t, m60 (w' t) = m60 w + k) ∧ m60 w + k ≤ 140000 := by
  obtain ⟨E, R, A, hT, hR, hA, hFo, hp, hh, hb, hbl⟩ := I
  by_cases hk : okP E (tZ E) (tI E)
  · obtain ⟨vv, a1, a2, a3, a4, a5, a6, a7, a8, a9, a10, a11, a12, a13, a14, a15, b1, b2, b3, b4, b5, b6, b7, b8, b9, b10, b11, b12, b13, e1, e2⟩ := parseF_ok (at_ := n11 v) (st := n12 v) (ng := n14 v) (ns := n22 v) (nc := n23 v) (ke := n17 v) (po := n16 v) (ch := n20 v) (un := n21 v) (ex := n19 v) (lo := n18 v) (ds := n24 v) (dc := n25 v) (ma := n15 v) (fo := n13 v) (mat := m10 w) (mst := m11 w) (mdc := m8 w) (mpt := m9 w) (mbi := m4 w) (mle := m5 w) (mus := m6 w) (mhn := m38 w) (mhd := m40 w) (mlc := m31 w) (mhp := m39 w) (mdg := m48 w) (men := m32 w) (med := m34 w) (mep := m33 w) (mco := m2 w) hT.1 hT.2.1 hT.2.2 hk
    exact ⟨Unit, 7, 154, 0, 0, vv, fq, _, _, _, _, cs_ch_parseFloat l z D g o q fq out oc v _ e1, rfl, cs_c_Md_parseFloat l z D g om u qb w _ e2, fun _ => rfl, fun _ => updL_s _ _ _, fun _ => INV_mk [] R A (IT_nil rfl) hR hA hFo hp hh hb hbl, fun _ => rfl, hbl.2⟩
  · obtain ⟨a1, a2, a3, a4, a5, a6, a7, a8, a9, a10, a11, a12, a13, a14, a15, b1, b2, b3, b4, b5, b6, b7, b8, b9, b10, b11, b12, b13, e1, e2⟩ := parseF_no (at_ := n11 v) (st := n12 v) (ng := n14 v) (ns := n22 v) (nc := n23 v) (ke := n17 v) (po := n16 v) (ch := n20 v) (un := n21 v) (ex := n19 v) (lo := n18 v) (ds := n24 v) (dc := n25 v) (ma := n15 v) (fo := n13 v) (mat := m10 w) (mst := m11 w) (mdc := m8 w) (mpt := m9 w) (mbi := m4 w) (mle := m5 w) (mus := m6 w) (mhn := m38 w) (mhd := m40 w) (mlc := m31 w) (mhp := m39 w) (mdg := m48 w) (men := m32 w) (med := m34 w) (mep := m33 w) (mco := m2 w) hT.1 hT.2.1 hT.2.2 hk
    exact ⟨Unit, 7, 154, 0, 1, iI 0, fq, _, _, _, _, cs_cht_parseFloat_1 l z D g o q fq out oc v hH _ e1 rfl, rfl, cs_c_Md_parseFloat l z D g om u qb w _ e2, fun _ => rfl, fun h => absurd h (by decide), fun _ => INV_mk [] R A (IT_nil rfl) hR hA hFo hp hh hb hbl, fun _ => rfl, hbl.2⟩
set_option maxHeartbeats 4000000 in
set_option maxRecDepth 100000 in
theorem st_6 {l : Launch} {z : State} (hH : gx_H l z) (D : va_G) (g : Nat → ClassId) (o : Nat) (q : Nat → Nat) (fq : Nat → Nat → Nat) (out : Nat) (oc : Nat → Int64) (om : Nat) (u : Nat → Nat) (qb : Nat) {v : NV} {w : MV} (I : INV v w) (x1 : Int32) (x2 : Int32) (y3 : Int64) : ∃ (X : Type) (fr lo k : Nat) (kc bm : Int32) (fq' : Nat → Nat → Nat) (oc' : Nat → Int64) (v' : NV) (qx : X → Nat) (w' : X → MV), LwH l z D g ({ cls := "NumberTextLaw", name := "show", desc := "(LNumberText;IIJ[J)I" } : MethodName) method_7_code 7 [(0, 12, 15, 19)] fr lo [.ref o, .int x1, .int x2, .long y3, .ref out] (wCL g o q fq out oc v) (wCL g o q fq' out oc' v') kc ∧ (Nat.ble (fr + 1) room_1.frames && Nat.ble (8 + (7 + 11) + lo) room_1.locals) = true ∧ LwX l z D g y_Md_show b_Md_show 6 5 142 k om [.int x1, .int x2, .long y3] (wMD g om u qb w) (fun t : X => wMD g om u (qx t) (w' t)) bm ∧ (∀ t, m2 (w' t) = kc) ∧ (kc = 0 → oc' (0 : Int32).toNatClampNeg = bm.toInt64) ∧ (∀ t, INV v' (w' t)) ∧ (∀ t, m60 (w' t) = m60 w + k) ∧ m60 w + k ≤ 140000 := by
  obtain ⟨E, R, A, hT, hR, hA, hFo, hp, hh, hb, hbl⟩ := I
  obtain ⟨k, k0, k1, rfl⟩ := iI_ex x1
  obtain ⟨a, a0, a1, rfl⟩ := iI_ex x2
  by_cases h : 0 ≤ k ∧ k ≤ 2 ∧ 0 ≤ a ∧ a ≤ 1200
  · obtain ⟨rl, ro, rc, hl, bl, z1, z2, z3, z4, z5, z6, z7, z8, z9, z10, z11, z12, z13, z14, z15, z16, z17, z18, z19, z20, z21, z22, z23, e1, b1, l1, l2⟩ := ntshow (u := u6 y3) (up := n54 v) (fl := n51 v) (na := n64 v) (ng := n63 v) (cl := n49 v) (inf := n65 v) (le := n55 v) (pr := n53 v) (c0 := n66 v) (q0 := n67 v) (ns := n58 v) (nl := n59 v) (ch := n60 v) (sz := n56 v) (pt := n57 v) (dc := n61 v) (bo := n72 v) (wd := n52 v) (hc := n70 v) (zr := n50 v) (bc := n73 v) (ho := n69 v) (si := n62 v) h.1 h.2.1 h.2.2.1 h.2.2.2 (u6_0 y3) (u6_l y3) hR.1 hh hb
    obtain ⟨r, e2, rb, rb2, hS⟩ := mshow_ok (u := u6 y3) (bi := m4 w) (un := m15 w) (le := m5 w) (us := m6 w) (en := m32 w) (ed := m34 w) (lc := m31 w) (ep := m33 w) (crn := m50 w) (crp := m51 w) (crd := m52 w) (bo := m12 w) (sp := m47 w) (ng := m14 w) (hd := m7 w) (ln := m1 w) (bc := m49 w) (co := m2 w) (no := m16 w) (rc := m30 w) (c := m59 w) (bl := m60 w) h.1 h.2.1 h.2.2.1 h.2.2.2 (u6_0 y3) (u6_l y3) hbl.1 (by omega)
    rw [l_u6] at e1 e2
    have hlb := realT_len (s := 0) (by omega) (u6_0 y3) h.2.2.1 (by omega) (shLe k) ((0 : Int32) ≠ 0) ((0 : Int32) ≠ 0)
    have hsg : (sgE 0 (u6 y3)).length ≤ 1 := by unfold sgE; split <;> simp
    have hlen : (sgE 0 (u6 y3) ++ realT 0 (u6 y3) (shLe k) a ((0 : Int32) ≠ 0) ((0 : Int32) ≠ 0)).length ≤ 32768 := by rw [List.length_append]; omega
    have hrl : rl = r.1 := by rw [hS.1, b1.1]; congr 2; omega
    exact ⟨Nat, 11, 251, _, 0, r.1, fq, _, _, _, _, cs_ch_show l z D g o q fq out oc v (iI k) (iI a) y3 _ e1, rfl, cs_c_Md_show l z D g om u qb w (iI k) (iI a) y3 r e2, fun _ => hS.2.2.1, fun _ => by rw [← hrl]; exact updL_s _ _ _, fun _ => INV_mk E _ A hT ⟨b1, hlen, hS.2.1, hS.2.2.2⟩ hA hFo hp l1 l2 ⟨Nat.lt_of_lt_of_le hbl.1 rb, Nat.le_trans rb2 (by omega)⟩, fun _ => (Nat.add_sub_of_le rb).symm, Nat.le_trans (Nat.le_of_eq (Nat.add_sub_of_le rb)) (Nat.le_trans rb2 (by omega))⟩
  · have e1 := ntshow_no (rl := n5 v) (up := n54 v) (fl := n51 v) (hl := n68 v) (bl := n71 v) (na := n64 v) (ng := n63 v) (cl := n49 v) (inf := n65 v) (le := n55 v) (pr := n53 v) (c0 := n66 v) (q0 := n67 v) (ns := n58 v) (nl := n59 v) (ch := n60 v) (sz := n56 v) (pt := n57 v) (dc := n61 v) (bo := n72 v) (wd := n52 v) (hc := n70 v) (ro := n6 v) (zr := n50 v) (bc := n73 v) (ho := n69 v) (si := n62 v) (rc := n7 v) k0 k1 a0 a1 h y3
    have e2 := mshow_no (bi := m4 w) (un := m15 w) (le := m5 w) (us := m6 w) (en := m32 w) (ed := m34 w) (lc := m31 w) (ep := m33 w) (crn := m50 w) (crp := m51 w) (crd := m52 w) (bo := m12 w) (sp := m47 w) (ng := m14 w) (hd := m7 w) (ln := m1 w) (bc := m49 w) (co := m2 w) (no := m16 w) (rc := m30 w) (c := m59 w) (bl := m60 w) k0 k1 a0 a1 h y3
    exact ⟨Nat, 11, 251, _, 1, 0, fq, _, _, _, _, cs_cht_show_1 l z D g o q fq out oc v hH (iI k) (iI a) y3 _ e1 rfl, rfl, cs_c_Md_show l z D g om u qb w (iI k) (iI a) y3 _ e2, fun _ => rfl, fun h => absurd h (by decide), fun _ => INV_mk E R A hT hR hA hFo hp hh hb hbl, fun _ => (Nat.add_sub_of_le (Nat.le_refl _)).symm, Nat.le_trans (Nat.le_of_eq (Nat.add_sub_of_le (Nat.le_refl _))) hbl.2⟩
set_option maxHeartbeats 4000000 in
set_option maxRecDepth 100000 in
theorem st_7 {l : Launch} {z : State} (hH : gx_H l z) (D : va_G) (g : Nat → ClassId) (o : Nat) (q : Nat → Nat) (fq : Nat → Nat → Nat) (out : Nat) (oc : Nat → Int64) (om : Nat) (u : Nat → Nat) (qb : Nat) {v : NV} {w : MV} (I : INV v w) (x1 : Int32) (y2 : Int64) : ∃ (X : Type) (fr lo k : Nat) (kc bm : Int32) (fq' : Nat → Nat → Nat) (oc' : Nat → Int64) (v' : NV) (qx : X → Nat) (w' : X → MV), LwH l z D g ({ cls := "NumberTextLaw", name := "argument", desc := "(LNumberText;IJ[J)I" } : MethodName) method_8_code 6 [(0, 11, 14, 19), (0, 11, 18, 13), (0, 11, 22, 25)] fr lo [.ref o, .int x1, .long y2, .ref out] (wCL g o q fq out oc v) (wCL g o q fq' out oc' v') kc ∧ (Nat.ble (fr + 1) room_1.frames && Nat.ble (8 + (6 + 11) + lo) room_1.locals) = true ∧ LwX l z D g y_Md_argument b_Md_argument 4 1 22 k om [.int x1, .long y2] (wMD g om u qb w) (fun t : X => wMD g om u (qx t) (w' t)) bm ∧ (∀ t, m2 (w' t) = kc) ∧ (kc = 0 → oc' (0 : Int32).toNatClampNeg = bm.toInt64) ∧ (∀ t, INV v' (w' t)) ∧ (∀ t, m60 (w' t) = m60 w + k) ∧ m60 w + k ≤ 140000 := by
  obtain ⟨E, R, A, hT, hR, hA, hFo, hp, hh, hb, hbl⟩ := I
  obtain ⟨k, k0, k1, rfl⟩ := iI_ex x1
  by_cases hk : 0 ≤ k ∧ k ≤ 6
  · by_cases hl : A.length < 16
    · by_cases hc : charOK k y2
      · obtain ⟨e1, e2⟩ := argument_ok hA.1 hl hk.1 hk.2 hc (m2 w)
        have hnew : ∀ a ∈ A ++ [(iI k, heldV k y2, ([] : List Int32))], a.1 = iI 1 → a.2.1 = iL 0 ∨ a.2.1 = iL 1 := by
          intro a ha h1
          rcases List.mem_append.mp ha with q | q
          · exact hA.2 a q h1
          · rw [List.mem_singleton] at q
            subst q
            have hk1 : k = 1 := by
              have := iI_eq (a := k) (b := 1) (by omega) (by omega) (by omega) (by omega)
              exact this.mp h1
            show heldV k y2 = iL 0 ∨ heldV k y2 = iL 1
            unfold heldV
            rw [if_pos hk1]
            split
            · exact Or.inr rfl
            · exact Or.inl rfl
        exact ⟨Unit, 3, 68, 0, 0, iI ((A.length : Int) + 1), fq, _, _, _, _, cs_ch_argument l z D g o q fq out oc v (iI k) y2 _ e1, rfl, cs_c_Md_argument l z D g om u qb w (iI k) y2 _ e2, fun _ => rfl, fun _ => updL_s _ _ _, fun _ => INV_mk E R (A ++ [(iI k, heldV k y2, [])]) hT hR ⟨AG_add hA.1 hl hk.1 hk.2 (heldV k y2), hnew⟩ hFo hp hh hb hbl, fun _ => rfl, hbl.2⟩
      · have h2 : k = 2 := Classical.byContradiction fun n => hc (fun e => absurd e n)
        subst h2
        obtain ⟨e1, e2⟩ := argument_no3 (v := y2) (by
          by_cases q : y2 < 32
          · exact Or.inl q
          · exact Or.inr (Classical.byContradiction fun n => hc (fun _ => ⟨q, n⟩))) hl hA.1.s1 hA.1.s2 (m2 w) (n9 v) (m53 w) (n10 v) (m54 w)
        exact ⟨Unit, 7, 113, 0, 3, iI 0, fq, _, _, _, _, cs_cht_argument_3 l z D g o q fq out oc v hH (iI 2) y2 _ e1 rfl, rfl, cs_c_Md_argument l z D g om u qb w (iI 2) y2 _ e2, fun _ => rfl, fun h => absurd h (by decide), fun _ => INV_mk E R A hT hR hA hFo hp hh hb hbl, fun _ => rfl, hbl.2⟩
    · have e16 : A.length = 16 := by have := hA.1.le; omega
      obtain ⟨e1, e2⟩ := argument_no2 hk.1 hk.2 y2 (sz := n8 v) (szm := m17 w) (by rw [hA.1.s1, e16]; rfl) (by rw [hA.1.s2, e16]; rfl) (m2 w) (n9 v) (m53 w) (n10 v) (m54 w)
      exact ⟨Unit, 7, 113, 0, 2, iI 0, fq, _, _, _, _, cs_cht_argument_2 l z D g o q fq out oc v hH (iI k) y2 _ e1 rfl, rfl, cs_c_Md_argument l z D g om u qb w (iI k) y2 _ e2, fun _ => rfl, fun h => absurd h (by decide), fun _ => INV_mk E R A hT hR hA hFo hp hh hb hbl, fun _ => rfl, hbl.2⟩
  · obtain ⟨e1, e2⟩ := argument_no1 k0 k1 (by omega) y2 (n8 v) (m17 w) (m2 w) (n9 v) (m53 w) (n10 v) (m54 w)
    exact ⟨Unit, 7, 113, 0, 1, iI 0, fq, _, _, _, _, cs_cht_argument_1 l z D g o q fq out oc v hH (iI k) y2 _ e1 rfl, rfl, cs_c_Md_argument l z D g om u qb w (iI k) y2 _ e2, fun _ => rfl, fun h => absurd h (by decide), fun _ => INV_mk E R A hT hR hA hFo hp hh hb hbl, fun _ => rfl, hbl.2⟩
set_option maxHeartbeats 4000000 in
set_option maxRecDepth 100000 in
theorem st_8 {l : Launch} {z : State} (hH : gx_H l z) (D : va_G) (g : Nat → ClassId) (o : Nat) (q : Nat → Nat) (fq : Nat → Nat → Nat) (out : Nat) (oc : Nat → Int64) (om : Nat) (u : Nat → Nat) (qb : Nat) {v : NV} {w : MV} (I : INV v w)  : ∃ (X : Type) (fr lo k : Nat) (kc bm : Int32) (fq' : Nat → Nat → Nat) (oc' : Nat → Int64) (v' : NV) (qx : X → Nat) (w' : X → MV), LwH l z D g ({ cls := "NumberTextLaw", name := "text", desc := "(LNumberText;[J)I" } : MethodName) method_9_code 3 [(0, 8, 11, 13)] fr lo [.ref o, .ref out] (wCL g o q fq out oc v) (wCL g o q fq' out oc' v') kc ∧ (Nat.ble (fr + 1) room_1.frames && Nat.ble (8 + (3 + 11) + lo) room_1.locals) = true ∧ LwX l z D g y_Md_text b_Md_text 3 1 22 k om [] (wMD g om u qb w) (fun t : X => wMD g om u (qx t) (w' t)) bm ∧ (∀ t, m2 (w' t) = kc) ∧ (kc = 0 → oc' (0 : Int32).toNatClampNeg = bm.toInt64) ∧ (∀ t, INV v' (w' t)) ∧ (∀ t, m60 (w' t) = m60 w + k) ∧ m60 w + k ≤ 140000 := by
  obtain ⟨E, R, A, hT, hR, hA, hFo, hp, hh, hb, hbl⟩ := I
  by_cases h : A.length < 16 ∧ E.length ≤ 200
  · obtain ⟨l', o', tl', tv', tc', km', lm', tm', kc', vc', e1, e2, b, hAG⟩ := text_ok hA.1 h.1 hT.1 hT.2.2 h.2 (m2 w)
    have hnew : ∀ a ∈ A ++ [(iI 7, iL 0, E)], a.1 = iI 1 → a.2.1 = iL 0 ∨ a.2.1 = iL 1 := by
      intro a ha h1
      rcases List.mem_append.mp ha with q | q
      · exact hA.2 a q h1
      · rw [List.mem_singleton] at q
        subst q
        exact absurd (show iI 7 = iI 1 from h1) (by decide)
    exact ⟨Unit, 5, 115, 0, 0, iI ((A.length : Int) + 1), fq, _, _, _, _, cs_ch_text l z D g o q fq out oc v _ e1, rfl, cs_c_Md_text l z D g om u qb w _ e2, fun _ => rfl, fun _ => updL_s _ _ _, fun _ => INV_mk [] R (A ++ [(iI 7, iL 0, E)]) (IT_of b rfl) hR ⟨hAG, hnew⟩ hFo hp hh hb hbl, fun _ => rfl, hbl.2⟩
  · obtain ⟨l', o', e1, e2, b⟩ := text_no hA.1 hT.1 hT.2.2 hT.2.1 (by have := hA.1.le; omega) (m2 w)
    exact ⟨Unit, 7, 115, 0, 1, iI 0, fq, _, _, _, _, cs_cht_text_1 l z D g o q fq out oc v hH _ e1 rfl, rfl, cs_c_Md_text l z D g om u qb w _ e2, fun _ => rfl, fun h => absurd h (by decide), fun _ => INV_mk [] R A (IT_of b rfl) hR hA hFo hp hh hb hbl, fun _ => rfl, hbl.2⟩
set_option maxHeartbeats 4000000 in
set_option maxRecDepth 100000 in
theorem st_9 {l : Launch} {z : State} (hH : gx_H l z) (D : va_G) (g : Nat → ClassId) (o : Nat) (q : Nat → Nat) (fq : Nat → Nat → Nat) (out : Nat) (oc : Nat → Int64) (om : Nat) (u : Nat → Nat) (qb : Nat) {v : NV} {w : MV} (I : INV v w)  : ∃ (X : Type) (k : Nat) (kc bm : Int32) (v' : NV) (qx : X → Nat) (w' : X → MV), LwX (X := Unit) l z D g y_Nt_clear b_Nt_clear 2 0 0 0 o [] (wCL g o q fq out oc v) (fun _ => wCL g o q fq out oc v') kc ∧ LwX l z D g y_Md_clear b_Md_clear 2 0 0 k om [] (wMD g om u qb w) (fun t : X => wMD g om u (qx t) (w' t)) bm ∧ kc = bm ∧ (∀ t, INV v' (w' t)) ∧ (∀ t, m60 (w' t) = m60 w + k) ∧ m60 w + k ≤ 140000 := by
  obtain ⟨E, R, A, hT, hR, hA, hFo, hp, hh, hb, hbl⟩ := I
  obtain ⟨e1, e2⟩ := clear_ok hA.1 (m2 w)
  exact ⟨Unit, 0, iI A.length, iI A.length, _, _, _, cs_c_Nt_clear l z D g o q fq out oc v _ e1, cs_c_Md_clear l z D g om u qb w _ e2, rfl, fun _ => INV_mk E R [] hT hR ⟨AG_nil hA.1, fun a ha => by simp at ha⟩ hFo hp hh hb hbl, fun _ => rfl, hbl.2⟩
set_option maxHeartbeats 4000000 in
set_option maxRecDepth 100000 in
theorem st_10 {l : Launch} {z : State} (hH : gx_H l z) (D : va_G) (g : Nat → ClassId) (o : Nat) (q : Nat → Nat) (fq : Nat → Nat → Nat) (out : Nat) (oc : Nat → Int64) (om : Nat) (u : Nat → Nat) (qb : Nat) {v : NV} {w : MV} (I : INV v w) (x1 : Int32) : ∃ (X : Type) (fr lo k : Nat) (kc bm : Int32) (fq' : Nat → Nat → Nat) (oc' : Nat → Int64) (v' : NV) (qx : X → Nat) (w' : X → MV), LwH l z D g ({ cls := "NumberTextLaw", name := "compile", desc := "(LNumberText;I[J)I" } : MethodName) method_10_code 4 [(0, 9, 12, 19), (0, 9, 15, 13), (0, 9, 18, 25), (0, 9, 21, 45)] fr lo [.ref o, .int x1, .ref out] (wCL g o q fq out oc v) (wCL g o q fq' out oc' v') kc ∧ (Nat.ble (fr + 1) room_1.frames && Nat.ble (8 + (4 + 11) + lo) room_1.locals) = true ∧ LwX l z D g y_Md_compile b_Md_compile 5 6 135 k om [.int x1] (wMD g om u qb w) (fun t : X => wMD g om u (qx t) (w' t)) bm ∧ (∀ t, m2 (w' t) = kc) ∧ (kc = 0 → oc' (0 : Int32).toNatClampNeg = bm.toInt64) ∧ (∀ t, INV v' (w' t)) ∧ (∀ t, m60 (w' t) = m60 w + k) ∧ m60 w + k ≤ 140000 := by
  obtain ⟨E, R, A, hT, hR, hA, hFo, hp, hh, hb, hbl⟩ := I
  obtain ⟨a, a0, a1, rfl⟩ := iI_ex x1
  obtain ⟨S, hS⟩ := hFo.2.1
  by_cases h : 0 ≤ a ∧ a < 8
  · obtain ⟨f, rfl⟩ : ∃ f : Nat, a = f := ⟨a.toNat, by omega⟩
    have hf : f < 8 := by omega
    obtain ⟨r, e2, hc1, hc2⟩ := mcompile_in (N := 65536) (f := f) (p0 := m20 w) (fe0 := m19 w) (w := m24 w) (pr := m25 w) (fl := m58 w) (cv := m26 w) (gv := m23 w) (co := m2 w) (plc := m3 w) (lm := m56 w) (th := m57 w) (ec := m62 w f) (ix := m21 w) (ag := m22 w) hT.2.2 hT.2.1 (by omega) hf
    by_cases q1 : 1000 < E.length
    · have hC := hc1 q1
      have e1 := ntcompile_no0 (sat := f2 (n74 v 8)) (sdr := f0 (n74 v 8)) (wc := f9 (n74 v 8)) (ic := f12 (n74 v 8)) (pc := f10 (n74 v 8)) (cc := f11 (n74 v 8)) (fl := f8 (n74 v 8)) (plc := n1 v) (pl := f6 (n74 v 8)) (epr := f1 (n74 v f)) (edr := f0 (n74 v f)) (cnt := n0 v) (ac := f7 (n74 v 8)) (spr := f1 (n74 v 8)) (by omega) hT.1 hT.2.1 hS hf q1 f
      exact ⟨Value, 9, 199, 0, 2, r.1, fq, _, _, _, _, cs_cht_compile_2 l z D g o q fq out oc v f hf hH (iI f) _ e1 rfl, rfl, cs_c_Md_compile l z D g om u qb w f hf (iI f) r e2, fun _ => hC.2.2.1, fun h => absurd h (by decide), fun _ => INV_mk [] R A (IT_nil hC.2.1) hR hA (IF_spare hFo ⟨S, hS⟩ hC.2.2.2.2.1 hC.2.2.2.2.2.1 hC.2.2.2.2.2.2) hC.2.2.2.1.symm hh hb hbl, fun _ => rfl, hbl.2⟩
    · obtain ⟨hw, hn⟩ := hc2 (by omega)
      cases hd : (dirL E).2 with
      | some j =>
        have hC := hw j hd
        obtain ⟨l', o', c', at', sdr', wc', ic', pc', cc', fl', pl', ac', e1, hB⟩ := ntcompile_no2 (sat := f2 (n74 v 8)) (sdr := f0 (n74 v 8)) (wc := f9 (n74 v 8)) (ic := f12 (n74 v 8)) (pc := f10 (n74 v 8)) (cc := f11 (n74 v 8)) (fl := f8 (n74 v 8)) (plc := n1 v) (pl := f6 (n74 v 8)) (epr := f1 (n74 v f)) (edr := f0 (n74 v f)) (cnt := n0 v) (ac := f7 (n74 v 8)) (spr := f1 (n74 v 8)) (by omega) hT.1 hT.2.1 hS hf (by omega) hd f
        exact ⟨Value, 9, 199, 0, 3, r.1, fq, _, _, _, _, cs_cht_compile_3 l z D g o q fq out oc v f hf hH (iI f) _ e1 rfl, rfl, cs_c_Md_compile l z D g om u qb w f hf (iI f) r e2, fun _ => hC.2.2.1, fun h => absurd h (by decide), fun _ => INV_mk [] R A (IT_nil hC.2.1) hR hA (IF_spare hFo ⟨E, hB⟩ hC.2.2.2.2.1 hC.2.2.2.2.2.1 hC.2.2.2.2.2.2) hC.2.2.2.1.symm hh hb hbl, fun _ => rfl, hbl.2⟩
      | none =>
        obtain ⟨hb1, hb2⟩ := hn hd
        cases hq : fB E (dirL E).1 with
        | some j =>
          have hC := hb1 j hq
          obtain ⟨l', o', c', at', sdr', wc', ic', pc', cc', fl', pl', ac', e1, hB⟩ := ntcompile_no3 (sat := f2 (n74 v 8)) (sdr := f0 (n74 v 8)) (wc := f9 (n74 v 8)) (ic := f12 (n74 v 8)) (pc := f10 (n74 v 8)) (cc := f11 (n74 v 8)) (fl := f8 (n74 v 8)) (plc := n1 v) (pl := f6 (n74 v 8)) (epr := f1 (n74 v f)) (edr := f0 (n74 v f)) (cnt := n0 v) (ac := f7 (n74 v 8)) (spr := f1 (n74 v 8)) (by omega) hT.1 hT.2.1 hS hf (by omega) hd hq f
          exact ⟨Value, 9, 199, 0, 4, r.1, fq, _, _, _, _, cs_cht_compile_4 l z D g o q fq out oc v f hf hH (iI f) _ e1 rfl, rfl, cs_c_Md_compile l z D g om u qb w f hf (iI f) r e2, fun _ => hC.2.2.1, fun h => absurd h (by decide), fun _ => INV_mk [] R A (IT_nil hC.2.1) hR hA (IF_spare hFo ⟨E, hB⟩ hC.2.2.2.2.1 hC.2.2.2.2.2.1 hC.2.2.2.2.2.2) hC.2.2.2.1.symm hh hb hbl, fun _ => rfl, hbl.2⟩
        | none =>
          obtain ⟨ec', hec, hC⟩ := hb2 hq
          have hO : FOK E := ⟨by omega, hd, hq⟩
          obtain ⟨l', o', c', at', wc', ic', pc', cc', fl', pl', ac', e1, hB, hG⟩ := ntcompile_ok (f := f) (sat := f2 (n74 v 8)) (sdr := f0 (n74 v 8)) (wc := f9 (n74 v 8)) (ic := f12 (n74 v 8)) (pc := f10 (n74 v 8)) (cc := f11 (n74 v 8)) (fl := f8 (n74 v 8)) (plc := n1 v) (pl := f6 (n74 v 8)) (epr := f1 (n74 v f)) (edr := f0 (n74 v f)) (cnt := n0 v) (ac := f7 (n74 v 8)) (spr := f1 (n74 v 8)) (by omega) hT.1 hT.2.1 hS hf hO
          exact ⟨Value, 9, 199, 0, 0, r.1, _, _, _, _, _, cs_ch_compile l z D g o q fq out oc v f hf (iI f) _ e1, rfl, cs_c_Md_compile l z D g om u qb w f hf (iI f) r e2, fun _ => hC.2.2.1, fun _ => by rw [hC.1]; exact updL_s _ _ _, fun _ => INV_mk [] R A (IT_nil hC.2.1) hR hA (IF_new hf hFo hO hB hG rfl rfl hC.2.2.2.2.1 hC.2.2.2.2.2.1 (TP_cast hC.2.2.2.2.2.2 ⟨rfl, hec, hT.2.2.2.2⟩) rfl) hC.2.2.2.1.symm hh hb hbl, fun _ => rfl, hbl.2⟩
  · obtain ⟨r, e2, hC⟩ := mcompile_out (N := 65536) (t := m0 w) (p0 := m20 w) (fe0 := m19 w) (c := m29 w) (w := m24 w) (pr := m25 w) (fl := m58 w) (cv := m26 w) (gv := m23 w) (co := m2 w) (plc := m3 w) (lm := m56 w) (th := m57 w) (ec := m62 w 0) (ix := m21 w) (ag := m22 w) a0 a1 (by omega) 0
    have e1 := ntcompile_no1 (sat := f2 (n74 v 8)) (sdr := f0 (n74 v 8)) (wc := f9 (n74 v 8)) (ic := f12 (n74 v 8)) (pc := f10 (n74 v 8)) (cc := f11 (n74 v 8)) (fl := f8 (n74 v 8)) (plc := n1 v) (pl := f6 (n74 v 8)) (epr := f1 (n74 v 0)) (edr := f0 (n74 v 0)) (cnt := n0 v) (ac := f7 (n74 v 8)) (spr := f1 (n74 v 8)) (by omega) hT.1 hT.2.1 hS a0 a1 (by omega) 0
    exact ⟨Value, 9, 199, 0, 1, r.1, fq, _, _, _, _, cs_cht_compile_1 l z D g o q fq out oc v 0 (by omega) hH (iI a) _ e1 rfl, rfl, cs_c_Md_compile l z D g om u qb w 0 (by omega) (iI a) r e2, fun _ => hC.2.2.1, fun h => absurd h (by decide), fun _ => INV_mk E R A ⟨hT.1, hT.2.1, hC.2.1.trans hT.2.2.1, hT.2.2.2⟩ hR hA (IF_spare hFo ⟨S, hS⟩ hC.2.2.2.2.1 hC.2.2.2.2.2.1 hC.2.2.2.2.2.2) (hp.trans hC.2.2.2.1.symm) hh hb hbl, fun _ => rfl, hbl.2⟩
set_option maxHeartbeats 4000000 in
set_option maxRecDepth 100000 in
theorem st_11 {l : Launch} {z : State} (hH : gx_H l z) (D : va_G) (g : Nat → ClassId) (o : Nat) (q : Nat → Nat) (fq : Nat → Nat → Nat) (out : Nat) (oc : Nat → Int64) (om : Nat) (u : Nat → Nat) (qb : Nat) {v : NV} {w : MV} (I : INV v w) (x1 : Int32) : ∃ (X : Type) (fr lo k : Nat) (kc bm : Int32) (fq' : Nat → Nat → Nat) (oc' : Nat → Int64) (v' : NV) (qx : X → Nat) (w' : X → MV), LwH l z D g ({ cls := "NumberTextLaw", name := "format", desc := "(LNumberText;I[J)I" } : MethodName) method_11_code 4 [(0, 9, 12, 19), (0, 9, 15, 45), (0, 9, 18, 50), (0, 9, 21, 25), (0, 9, 24, 13)] fr lo [.ref o, .int x1, .ref out] (wCL g o q fq out oc v) (wCL g o q fq' out oc' v') kc ∧ (Nat.ble (fr + 1) room_1.frames && Nat.ble (8 + (4 + 11) + lo) room_1.locals) = true ∧ LwX l z D g y_Md_format b_Md_format 4 8 188 k om [.int x1] (wMD g om u qb w) (fun t : X => wMD g om u (qx t) (w' t)) bm ∧ (∀ t, m2 (w' t) = kc) ∧ (kc = 0 → oc' (0 : Int32).toNatClampNeg = bm.toInt64) ∧ (∀ t, INV v' (w' t)) ∧ (∀ t, m60 (w' t) = m60 w + k) ∧ m60 w + k ≤ 140000 := by
  obtain ⟨E, R, A, hT, hR, hA, hFo, hp, hh, hb, hbl⟩ := I
  obtain ⟨a, a0, a1, rfl⟩ := iI_ex x1
  by_cases h : 0 ≤ a ∧ a < 8
  · obtain ⟨f, rfl⟩ : ∃ f : Nat, a = f := ⟨a.toNat, by omega⟩
    have hf : f < 8 := by omega
    rcases (hFo.1 f hf).2 with ⟨t0, p0⟩ | ⟨t1, p1, X, hO, hB, hG, hd0, hlm, hec⟩
    · have e1 := ntformat_no3 (f := f) (A := A) (rln := n5 v) (dr := f0 (n74 v f)) (xl := f3 (n74 v f)) (xc := f5 (n74 v f)) (rov := n6 v) (pc_ := f6 (n74 v f)) (fcv := f11 (n74 v f)) (ffl := f8 (n74 v f)) (fwd := f9 (n74 v f)) (fpr := f10 (n74 v f)) (up0 := n54 v) (fl0 := n51 v) (hl0 := n68 v) (bl0 := n71 v) (fix := f12 (n74 v f)) (le0 := n55 v) (kc := n9 v) (vc := n10 v) (cl0 := n49 v) (ds := n56 v) (dp := n57 v) (dd := n61 v) (pr0 := n53 v) (na := n64 v) (ng := n63 v) (inf := n65 v) (c0 := n66 v) (q0 := n67 v) (op := n32 v) (vs := n39 v) (vl := n40 v) (us := n43 v) (ul := n44 v) (si := n62 v) (ws := n45 v) (wl := n46 v) (ts := n41 v) (tl_ := n42 v) (es := n33 v) (ep := n34 v) (ed := n38 v) (rs := n47 v) (rl := n48 v) (bo0 := n72 v) (wd0 := n52 v) (hc := n70 v) (zr0 := n50 v) (bc := n73 v) (ns := n58 v) (nl := n59 v) (ch := n60 v) (ac_ := f7 (n74 v f)) (plc := n1 v) (rrc := n7 v) (ho0 := n69 v) (tl := n75 v) (tv := n76 v) (tc := n77 v) hf
      have e2 := mformat_no2 (f := f) (th := m57 w) (lm := m56 w) (p0 := m20 w) (fe := m19 w) (h0 := m7 w) (ln := m1 w) (ec := (m62 w) f) (w := m24 w) (pr := m25 w) (fl := m58 w) (cv := m26 w) (ag := m22 w) (gv := m23 w) (nx := m27 w) (arn := m17 w) (ix := m21 w) (bf := m28 w) (km := m53 w) (vm := m54 w) (bi := m4 w) (le := m5 w) (us := m6 w) (xn := m32 w) (xd := m34 w) (lc := m31 w) (hn := m38 w) (hd := m40 w) (lo := m35 w) (ld := m37 w) (xp := m33 w) (dn := m41 w) (dd := m43 w) (dp := m42 w) (un_ := m44 w) (ud := m46 w) (up_ := m45 w) (lp := m36 w) (hp := m39 w) (sp := m47 w) (tlm := m55 w) (uu := m15 w) (crn := m50 w) (crp := m51 w) (crd := m52 w) (bo := m12 w) (ng := m14 w) (no := m16 w) (yb := m49 w) (co0 := m2 w) (pl0 := m3 w) (rc := m30 w) (c := m59 w) (bl := m60 w) (tx := m61 w) hf t0
      rw [← p0, ← hA.1.s1] at e1
      exact ⟨Nat × Value, 11, 251, _, 2, 0, fq, _, _, _, _, cs_cht_format_2 l z D g o q fq out oc v f hf hH (iI f) _ e1 rfl, rfl, cs_c_Md_format l z D g om u qb w f hf (iI f) _ e2, fun _ => rfl, fun h => absurd h (by decide), fun _ => INV_mk E R A hT hR hA hFo hp hh hb hbl, fun _ => (Nat.add_sub_of_le (Nat.le_refl _)).symm, Nat.le_trans (Nat.le_of_eq (Nat.add_sub_of_le (Nat.le_refl _))) hbl.2⟩
    · obtain ⟨r, e2, rb, rb2, co, pl, R', hRF, hMR⟩ := mformat_ok (X := X) (A := A) (f := f) (th := m57 w) (lm := m56 w) (p0 := m20 w) (fe := m19 w) (h0 := m7 w) (ln := m1 w) (ec := (m62 w) f) (w := m24 w) (pr := m25 w) (fl := m58 w) (cv := m26 w) (ag := m22 w) (gv := m23 w) (nx := m27 w) (ix := m21 w) (bf := m28 w) (km := m53 w) (vm := m54 w) (bi := m4 w) (le := m5 w) (us := m6 w) (xn := m32 w) (xd := m34 w) (lc := m31 w) (hn := m38 w) (hd := m40 w) (lo := m35 w) (ld := m37 w) (xp := m33 w) (dn := m41 w) (dd := m43 w) (dp := m42 w) (un_ := m44 w) (ud := m46 w) (up_ := m45 w) (lp := m36 w) (hp := m39 w) (sp := m47 w) (tlm := m55 w) (uu := m15 w) (crn := m50 w) (crp := m51 w) (crd := m52 w) (bo := m12 w) (ng := m14 w) (no := m16 w) (yb := m49 w) (co0 := m2 w) (pl0 := m3 w) (rc := m30 w) (c := m59 w) (bl := m60 w) (tx := m61 w) hec hO hA.1.le (fun i a hi => by
          obtain ⟨h1, h2, k, k0, k7, hk⟩ := hA.1.kd i a hi
          exact ⟨k, k0, k7, hk, by rw [h2, hk]⟩) (fun i a hi h7 => (hA.1.vl i a hi h7).2) (fun i a hi h7 => by
          obtain ⟨t1, t2, t3, t4⟩ := hA.1.tx i a hi h7
          exact ⟨⟨t3, t4, t2.2.2.2⟩, t1⟩) hf t1 hlm hbl.1 (by omega)
      rw [← hA.1.s2] at e2
      have hbl' : 0 < π47 r ∧ π47 r ≤ 140000 := ⟨Nat.lt_of_lt_of_le hbl.1 rb, Nat.le_trans rb2 (by omega)⟩
      have hAC := AGC_of hA
      have hFC := FMC_of (A := A) hO hG
      by_cases hc : co = 0
      · subst hc
        have hpl : pl = -1 := by
          rcases RF_out _ _ _ _ _ hRF with y | y | y | y
          · exact y.2
          · exact absurd y (by decide)
          · exact absurd y (by decide)
          · exact absurd y (by decide)
        subst hpl
        obtain ⟨m1', m2', m3', -⟩ := hMR
        obtain ⟨r1, r2, r3, r4, r5⟩ := m3' rfl
        obtain ⟨s, e1, hN⟩ := ntformat_ok (f := f) (epr := f1 (n74 v f)) (up0 := n54 v) (fl0 := n51 v) (hl0 := n68 v) (bl0 := n71 v) (le0 := n55 v) (cl0 := n49 v) (ds := n56 v) (dp := n57 v) (dd := n61 v) (pr0 := n53 v) (na := n64 v) (ng := n63 v) (inf := n65 v) (c0 := n66 v) (q0 := n67 v) (op := n32 v) (vs := n39 v) (vl := n40 v) (us := n43 v) (ul := n44 v) (si := n62 v) (ws := n45 v) (wl := n46 v) (ts := n41 v) (tl_ := n42 v) (es := n33 v) (ep := n34 v) (ed := n38 v) (rs := n47 v) (rl := n48 v) (bo0 := n72 v) (wd0 := n52 v) (hc := n70 v) (zr0 := n50 v) (bc := n73 v) (ns := n58 v) (nl := n59 v) (ch := n60 v) (plc := n1 v) (rrc := n7 v) (ho0 := n69 v) hO.1 hB hAC hFC hf p1 hRF hR.1 hh hb
        rw [← hd0, ← hA.1.s1] at e1
        exact ⟨Nat × Value, 11, 251, _, 0, r.1, fq, _, _, _, _, cs_ch_format l z D g o q fq out oc v f hf (iI f) s e1, rfl, cs_c_Md_format l z D g om u qb w f hf (iI f) r e2, fun _ => m1', fun _ => by rw [r2, ← hN.1]; exact updL_s _ _ _, fun _ => INV_mk E R' A hT ⟨hN.2.2.2.2, r1, r3, r5⟩ hA hFo (hN.2.2.2.1.trans m2'.symm) hN.2.1 hN.2.2.1 hbl', fun _ => (Nat.add_sub_of_le rb).symm, Nat.le_trans (Nat.le_of_eq (Nat.add_sub_of_le rb)) hbl'.2⟩
      · obtain ⟨m1', m2', -, m4'⟩ := hMR
        obtain ⟨r1, r2⟩ := m4' hc
        obtain ⟨s, e1, hN⟩ := ntformat_er (f := f) (epr := f1 (n74 v f)) (up0 := n54 v) (fl0 := n51 v) (hl0 := n68 v) (bl0 := n71 v) (le0 := n55 v) (cl0 := n49 v) (ds := n56 v) (dp := n57 v) (dd := n61 v) (pr0 := n53 v) (na := n64 v) (ng := n63 v) (inf := n65 v) (c0 := n66 v) (q0 := n67 v) (op := n32 v) (vs := n39 v) (vl := n40 v) (us := n43 v) (ul := n44 v) (si := n62 v) (ws := n45 v) (wl := n46 v) (ts := n41 v) (tl_ := n42 v) (es := n33 v) (ep := n34 v) (ed := n38 v) (rs := n47 v) (rl := n48 v) (bo0 := n72 v) (wd0 := n52 v) (hc := n70 v) (zr0 := n50 v) (bc := n73 v) (ns := n58 v) (nl := n59 v) (ch := n60 v) (plc := n1 v) (rrc := n7 v) (ho0 := n69 v) hO.1 hB hAC hFC hf p1 hc hRF hR.1 hh hb
        rw [← hd0, ← hA.1.s1] at e1
        rcases RF_out _ _ _ _ _ hRF with y | y | y | y
        · exact absurd y.1 hc
        · subst y
          exact ⟨Nat × Value, 11, 251, _, 3, r.1, fq, _, _, _, _, cs_cht_format_3 l z D g o q fq out oc v f hf hH (iI f) s e1 hN.1, rfl, cs_c_Md_format l z D g om u qb w f hf (iI f) r e2, fun _ => m1', fun h => absurd h (by decide), fun _ => INV_mk E [] A hT ⟨hN.2.2.2.2, Nat.zero_le _, r2, fun j x hx => by simp at hx⟩ hA hFo (hN.2.2.2.1.trans m2'.symm) hN.2.1 hN.2.2.1 hbl', fun _ => (Nat.add_sub_of_le rb).symm, Nat.le_trans (Nat.le_of_eq (Nat.add_sub_of_le rb)) hbl'.2⟩
        · subst y
          exact ⟨Nat × Value, 11, 251, _, 4, r.1, fq, _, _, _, _, cs_cht_format_4 l z D g o q fq out oc v f hf hH (iI f) s e1 hN.1, rfl, cs_c_Md_format l z D g om u qb w f hf (iI f) r e2, fun _ => m1', fun h => absurd h (by decide), fun _ => INV_mk E [] A hT ⟨hN.2.2.2.2, Nat.zero_le _, r2, fun j x hx => by simp at hx⟩ hA hFo (hN.2.2.2.1.trans m2'.symm) hN.2.1 hN.2.2.1 hbl', fun _ => (Nat.add_sub_of_le rb).symm, Nat.le_trans (Nat.le_of_eq (Nat.add_sub_of_le rb)) hbl'.2⟩
        · subst y
          exact ⟨Nat × Value, 11, 251, _, 5, r.1, fq, _, _, _, _, cs_cht_format_5 l z D g o q fq out oc v f hf hH (iI f) s e1 hN.1, rfl, cs_c_Md_format l z D g om u qb w f hf (iI f) r e2, fun _ => m1', fun h => absurd h (by decide), fun _ => INV_mk E [] A hT ⟨hN.2.2.2.2, Nat.zero_le _, r2, fun j x hx => by simp at hx⟩ hA hFo (hN.2.2.2.1.trans m2'.symm) hN.2.1 hN.2.2.1 hbl', fun _ => (Nat.add_sub_of_le rb).symm, Nat.le_trans (Nat.le_of_eq (Nat.add_sub_of_le rb)) hbl'.2⟩
  · have e1 := ntformat_no1 (fi := a) (sel := 0) (A := A) (epr := f1 (n74 v 0)) (rln := n5 v) (dr := f0 (n74 v 0)) (xl := f3 (n74 v 0)) (xc := f5 (n74 v 0)) (rov := n6 v) (pc_ := f6 (n74 v 0)) (fcv := f11 (n74 v 0)) (ffl := f8 (n74 v 0)) (fwd := f9 (n74 v 0)) (fpr := f10 (n74 v 0)) (up0 := n54 v) (fl0 := n51 v) (hl0 := n68 v) (bl0 := n71 v) (fix := f12 (n74 v 0)) (le0 := n55 v) (kc := n9 v) (vc := n10 v) (cl0 := n49 v) (ds := n56 v) (dp := n57 v) (dd := n61 v) (pr0 := n53 v) (na := n64 v) (ng := n63 v) (inf := n65 v) (c0 := n66 v) (q0 := n67 v) (op := n32 v) (vs := n39 v) (vl := n40 v) (us := n43 v) (ul := n44 v) (si := n62 v) (ws := n45 v) (wl := n46 v) (ts := n41 v) (tl_ := n42 v) (es := n33 v) (ep := n34 v) (ed := n38 v) (rs := n47 v) (rl := n48 v) (bo0 := n72 v) (wd0 := n52 v) (hc := n70 v) (zr0 := n50 v) (bc := n73 v) (ns := n58 v) (nl := n59 v) (ch := n60 v) (ac_ := f7 (n74 v 0)) (plc := n1 v) (rrc := n7 v) (ho0 := n69 v) (tl := n75 v) (tv := n76 v) (tc := n77 v) a0 a1 (by omega)
    have e2 := mformat_no1 (fi := a) (sel := 0) (th := m57 w) (lm := m56 w) (p0 := m20 w) (fe := m19 w) (h0 := m7 w) (ln := m1 w) (ec := (m62 w) 0) (w := m24 w) (pr := m25 w) (fl := m58 w) (cv := m26 w) (ag := m22 w) (gv := m23 w) (nx := m27 w) (arn := m17 w) (ix := m21 w) (bf := m28 w) (km := m53 w) (vm := m54 w) (bi := m4 w) (le := m5 w) (us := m6 w) (xn := m32 w) (xd := m34 w) (lc := m31 w) (hn := m38 w) (hd := m40 w) (lo := m35 w) (ld := m37 w) (xp := m33 w) (dn := m41 w) (dd := m43 w) (dp := m42 w) (un_ := m44 w) (ud := m46 w) (up_ := m45 w) (lp := m36 w) (hp := m39 w) (sp := m47 w) (tlm := m55 w) (uu := m15 w) (crn := m50 w) (crp := m51 w) (crd := m52 w) (bo := m12 w) (ng := m14 w) (no := m16 w) (yb := m49 w) (co0 := m2 w) (pl0 := m3 w) (rc := m30 w) (c := m59 w) (bl := m60 w) (tx := m61 w) a0 a1 (by omega)
    rw [← hA.1.s1] at e1
    exact ⟨Nat × Value, 11, 251, _, 1, 0, fq, _, _, _, _, cs_cht_format_1 l z D g o q fq out oc v 0 (by omega) hH (iI a) _ e1 rfl, rfl, cs_c_Md_format l z D g om u qb w 0 (by omega) (iI a) _ e2, fun _ => rfl, fun h => absurd h (by decide), fun _ => INV_mk E R A hT hR hA hFo hp hh hb hbl, fun _ => (Nat.add_sub_of_le (Nat.le_refl _)).symm, Nat.le_trans (Nat.le_of_eq (Nat.add_sub_of_le (Nat.le_refl _))) hbl.2⟩
set_option maxHeartbeats 4000000 in
set_option maxRecDepth 100000 in
theorem st_12 {l : Launch} {z : State} (hH : gx_H l z) (D : va_G) (g : Nat → ClassId) (o : Nat) (q : Nat → Nat) (fq : Nat → Nat → Nat) (out : Nat) (oc : Nat → Int64) (om : Nat) (u : Nat → Nat) (qb : Nat) {v : NV} {w : MV} (I : INV v w) (x1 : Int32) : ∃ (fr lo : Nat) (kc : Int32) (bm : Int64) (fq' : Nat → Nat → Nat) (oc' : Nat → Int64) (v' : NV) (w' : MV), LwH l z D g ({ cls := "NumberTextLaw", name := "word", desc := "(LNumberText;I[J)I" } : MethodName) method_12_code 4 [(0, 8, 11, 13)] fr lo [.ref o, .int x1, .ref out] (wCL g o q fq out oc v) (wCL g o q fq' out oc' v') kc ∧ (Nat.ble (fr + 1) room_1.frames && Nat.ble (8 + (4 + 11) + lo) room_1.locals) = true ∧ LwL l z D g y_Md_word b_Md_word 5 1 22 om [.int x1] (wMD g om u qb w) (wMD g om u qb w') bm ∧ m2 w' = kc ∧ (kc = 0 → oc' (0 : Int32).toNatClampNeg = bm) ∧ INV v' w' ∧ m60 w' = m60 w := by
  obtain ⟨E, R, A, hT, hR, hA, hFo, hp, hh, hb, hbl⟩ := I
  obtain ⟨a, a0, a1, rfl⟩ := iI_ex x1
  by_cases h : 0 ≤ a ∧ a < R.length
  · obtain ⟨w0, e1, e2⟩ := word_ok rfl hR.1 hR.2.1 hR.2.2.2 h.1 h.2 (m2 w)
    rw [← hR.2.2.1] at e2
    exact ⟨2, 45, 0, w0, fq, _, _, _, cs_ch_word l z D g o q fq out oc v (iI a) w0 e1, rfl, cs_c_Md_word l z D g om u qb w (iI a) _ e2, rfl, fun _ => updL_s _ _ _, INV_mk E R A hT hR hA hFo hp hh hb hbl, rfl⟩
  · obtain ⟨e1, e2⟩ := word_no (rc := m30 w) rfl hR.1 hR.2.1 a0 a1 (by omega) (m2 w)
    rw [← hR.2.2.1] at e2
    exact ⟨7, 114, 1, iL 0, fq, _, _, _, cs_cht_word_1 l z D g o q fq out oc v hH (iI a) 0 e1 rfl, rfl, cs_c_Md_word l z D g om u qb w (iI a) _ e2, rfl, fun h => absurd h (by decide), INV_mk E R A hT hR hA hFo hp hh hb hbl, rfl⟩
set_option maxHeartbeats 4000000 in
set_option maxRecDepth 100000 in
theorem st_13 {l : Launch} {z : State} (hH : gx_H l z) (D : va_G) (g : Nat → ClassId) (o : Nat) (q : Nat → Nat) (fq : Nat → Nat → Nat) (out : Nat) (oc : Nat → Int64) (om : Nat) (u : Nat → Nat) (qb : Nat) {v : NV} {w : MV} (I : INV v w) (x1 : Int32) : ∃ (X : Type) (fr lo k : Nat) (kc bm : Int32) (fq' : Nat → Nat → Nat) (oc' : Nat → Int64) (v' : NV) (qx : X → Nat) (w' : X → MV), LwH l z D g ({ cls := "NumberTextLaw", name := "count", desc := "(LNumberText;I[J)I" } : MethodName) method_13_code 4 [(0, 9, 12, 19)] fr lo [.ref o, .int x1, .ref out] (wCL g o q fq out oc v) (wCL g o q fq' out oc' v') kc ∧ (Nat.ble (fr + 1) room_1.frames && Nat.ble (8 + (4 + 11) + lo) room_1.locals) = true ∧ LwX l z D g y_Md_count b_Md_count 4 1 22 k om [.int x1] (wMD g om u qb w) (fun t : X => wMD g om u (qx t) (w' t)) bm ∧ (∀ t, m2 (w' t) = kc) ∧ (kc = 0 → oc' (0 : Int32).toNatClampNeg = bm.toInt64) ∧ (∀ t, INV v' (w' t)) ∧ (∀ t, m60 (w' t) = m60 w + k) ∧ m60 w + k ≤ 140000 := by
  obtain ⟨E, R, A, hT, hR, hA, hFo, hp, hh, hb, hbl⟩ := I
  obtain ⟨a, a0, a1, rfl⟩ := iI_ex x1
  by_cases h : 0 ≤ a ∧ a ≤ 4
  · obtain ⟨w0, e1, e2⟩ := count_ok hFo.2.2 h.1 h.2 (m3 w) (m17 w) (m1 w) (m0 w) (m2 w)
    have q2 : n8 v = m17 w := hA.1.s1.trans hA.1.s2.symm
    have q3 : n5 v = m1 w := by have := hR.2.1; rw [hR.2.2.1, hR.1.1]; congr 2; omega
    have q4 : n2 v = m0 w := by have := hT.2.1; rw [hT.2.2.1, hT.1.1]; congr 2; omega
    rw [← hp, ← q2, ← q3, ← q4] at e1
    exact ⟨Unit, 1, 21, 0, 0, w0, fq, _, _, _, _, cs_ch_count l z D g o q fq out oc v (iI a) w0 e1, rfl, cs_c_Md_count l z D g om u qb w (iI a) _ e2, fun _ => rfl, fun _ => updL_s _ _ _, fun _ => INV_mk E R A hT hR hA hFo hp hh hb hbl, fun _ => rfl, hbl.2⟩
  · obtain ⟨e1, -⟩ := count_no a0 a1 (by omega) (m57 w) (n0 v) (n1 v) (n8 v) (n5 v) (n2 v) (m2 w)
    obtain ⟨-, e2⟩ := count_no a0 a1 (by omega) (m57 w) (n0 v) (m3 w) (m17 w) (m1 w) (m0 w) (m2 w)
    exact ⟨Unit, 7, 111, 0, 1, iI 0, fq, _, _, _, _, cs_cht_count_1 l z D g o q fq out oc v hH (iI a) 1 e1 rfl, rfl, cs_c_Md_count l z D g om u qb w (iI a) _ e2, fun _ => rfl, fun h => absurd h (by decide), fun _ => INV_mk E R A hT hR hA hFo hp hh hb hbl, fun _ => rfl, hbl.2⟩
