/-! the cases of the law -/
abbrev lw_lng (a b : Int32) : Int64 := (a.toInt64 <<< ((32 : Int32).toInt64 &&& 63)) ||| (b.toInt64 &&& (4294967295 : Int64))
def lw_in (i : Int32) (L : Nat) : Prop := vp_in (i + (1 : Int32)) L ∧ vp_in (i + (2 : Int32)) L ∧ vp_in (i + (3 : Int32)) L ∧ vp_in (i + (4 : Int32)) L ∧ vp_in (i + (5 : Int32)) L
section LWC
variable {p : Program} {l : Launch} {e : Env} {s : State} {m : MethodId} {below : List Frame} {meth : Method} {c : Code} {H : Heap} {locs : List Loc} {cells slots : Nat} {Q : State → Prop} {D : va_G} {g : Nat → ClassId} {b L : Nat} {xs : Nat → Int32} {o : Nat} {q : Nat → Nat} {fq fq' : Nat → Nat → Nat} {out : Nat} {oc oc' : Nat → Int64} {v v' : NV} {om : Nat} {u : Nat → Nat} {qb : Nat} {w w' : MV} {i : Int32} {ls : Array Slot} {fr lo k : Nat} {kc kt : Int32}
set_option maxHeartbeats 4000000 in
set_option maxRecDepth 100000 in
theorem lo_0 {X : Type} {qx : X → Nat} {w' : X → MV} {bm : Int32} (S : CallFix p m c code 8 s #[Value.ref b] gtbl "NumberTextLaw") (E : gx_E s D g s (gx_A0 s)) (hX : va_X b L xs s s.heap) (hbl : b < s.heap.size) (hi : lw_in i L) (hS : va_S (gx_A0 s) s.heap H locs) (hP : va_P D vwC (wCL g o q fq out oc v ++ wMD g om u qb w) H) (hD : va_D (gx_A0 s) (wCL g o q fq out oc v ++ wMD g om u qb w)) (hl : lv_has ls 8 [(0, .ref b), (1, .ref o), (2, .ref om), (3, .ref out), (4, .int i)]) (C : LwH l s D g ({ cls := "NumberTextLaw", name := "feed", desc := "(LNumberText;IIIII[J)I" } : MethodName) method_3_code 8 [(0, 16, 19, 13)] fr lo [.ref o, .int (xs (i + (1 : Int32)).toNatClampNeg), .int (xs (i + (2 : Int32)).toNatClampNeg), .int (xs (i + (3 : Int32)).toNatClampNeg), .int (xs (i + (4 : Int32)).toNatClampNeg), .int (xs (i + (5 : Int32)).toNatClampNeg), .ref out] (wCL g o q fq out oc v) (wCL g o q fq' out oc' v') kc) (hrC : (Nat.ble (fr + 1) room_1.frames && Nat.ble (8 + (8 + 11) + lo) room_1.locals) = true) (M : LwX l s D g y_Md_feed b_Md_feed 6 1 22 k om [.int (xs (i + (1 : Int32)).toNatClampNeg), .int (xs (i + (2 : Int32)).toNatClampNeg), .int (xs (i + (3 : Int32)).toNatClampNeg), .int (xs (i + (4 : Int32)).toNatClampNeg), .int (xs (i + (5 : Int32)).toNatClampNeg)] (wMD g om u qb w) (fun t : X => wMD g om u (qx t) (w' t)) bm) (T : ∀ t : X, LwX (X := Unit) l s D g y_Md_thrown b_Md_thrown 1 0 0 0 om [] (wMD g om u (qx t) (w' t)) (fun _ => wMD g om u (qx t) (w' t)) kt) (hk : kt = kc) (ha : kc = 0 → oc' (0 : Int32).toNatClampNeg = bm.toInt64) (hroom : cells + 1 + k ≤ room_1.cells ∧ slots + 6 + 2 * k ≤ room_1.slots) (K : ∀ (t : X) (H1 : Heap) (locs1 : List Loc) (ls1 : Array Slot), va_S (gx_A0 s) s.heap H1 locs1 → va_P D vwC (wCL g o q fq' out oc' v' ++ wMD g om u (qx t) (w' t)) H1 → va_D (gx_A0 s) (wCL g o q fq' out oc' v' ++ wMD g om u (qx t) (w' t)) → lv_has ls1 8 [(0, .ref b), (1, .ref o), (2, .ref om), (3, .ref out), (4, .int i)] → W p l e room_1 s m #[Value.ref b] below meth c H1 locs1 (cells + 1 + k) (slots + 6 + 2 * k) Q (F0 m 933 ls1 [])) : W p l e room_1 s m #[Value.ref b] below meth c H locs cells slots Q (F0 m 112 ls []) := by
  have hbA : ¬ gx_A0 s b := Nat.not_le.mpr hbl
  refine lv_aload_n S.1 S.2.1 dl_112 rfl (lv_at hl 1 rfl) ?_
  refine lv_aload_n S.1 S.2.1 dl_113 rfl (lv_at hl 0 rfl) ?_
  refine lv_iload S.1 S.2.1 dl_114 (lv_at hl 4 rfl) ?_
  refine lv_iconst (v := 1) S.1 S.2.1 dl_116 (by decide) ?_
  refine lv_iadd S.1 S.2.1 dl_117 ?_
  refine va_sld S.1 S.2.1 hX hbl hbA hS hi.1 dl_118 ?_
  refine lv_aload_n S.1 S.2.1 dl_119 rfl (lv_at hl 0 rfl) ?_
  refine lv_iload S.1 S.2.1 dl_120 (lv_at hl 4 rfl) ?_
  refine lv_iconst (v := 2) S.1 S.2.1 dl_122 (by decide) ?_
  refine lv_iadd S.1 S.2.1 dl_123 ?_
  refine va_sld S.1 S.2.1 hX hbl hbA hS hi.2.1 dl_124 ?_
  refine lv_aload_n S.1 S.2.1 dl_125 rfl (lv_at hl 0 rfl) ?_
  refine lv_iload S.1 S.2.1 dl_126 (lv_at hl 4 rfl) ?_
  refine lv_iconst (v := 3) S.1 S.2.1 dl_128 (by decide) ?_
  refine lv_iadd S.1 S.2.1 dl_129 ?_
  refine va_sld S.1 S.2.1 hX hbl hbA hS hi.2.2.1 dl_130 ?_
  refine lv_aload_n S.1 S.2.1 dl_131 rfl (lv_at hl 0 rfl) ?_
  refine lv_iload S.1 S.2.1 dl_132 (lv_at hl 4 rfl) ?_
  refine lv_iconst (v := 4) S.1 S.2.1 dl_134 (by decide) ?_
  refine lv_iadd S.1 S.2.1 dl_135 ?_
  refine va_sld S.1 S.2.1 hX hbl hbA hS hi.2.2.2.1 dl_136 ?_
  refine lv_aload_n S.1 S.2.1 dl_137 rfl (lv_at hl 0 rfl) ?_
  refine lv_iload S.1 S.2.1 dl_138 (lv_at hl 4 rfl) ?_
  refine lv_iconst (v := 5) S.1 S.2.1 dl_140 (by decide) ?_
  refine lv_iadd S.1 S.2.1 dl_141 ?_
  refine va_sld S.1 S.2.1 hX hbl hbA hS hi.2.2.2.2 dl_142 ?_
  refine lv_aload_n S.1 S.2.1 dl_143 rfl (lv_at hl 3 rfl) ?_
  refine gw_H S E hS hP hD C calh_feed wd_630 wd_629 hrC rfl hl.1 rfl dl_144 ⟨by omega, by omega⟩ (fun H locs hS hP hD => ?_)
  refine lv_istore (lv' := [(5, .int kc), (0, .ref b), (1, .ref o), (2, .ref om), (3, .ref out), (4, .int i)]) S.1 S.2.1 dl_147 hl (by decide) rfl (fun ls hl => ?_)
  refine lv_aload_n S.1 S.2.1 dl_149 rfl (lv_at hl 3 rfl) ?_
  refine lv_aload_n S.1 S.2.1 dl_150 rfl (lv_at hl 1 rfl) ?_
  refine lv_iload S.1 S.2.1 dl_151 (lv_at hl 5 rfl) ?_
  refine lv_iconst (v := 1) S.1 S.2.1 dl_153 (by decide) ?_
  refine lv_iadd S.1 S.2.1 dl_154 ?_
  refine va_sld S.1 S.2.1 hX hbl hbA hS hi.1 dl_155 ?_
  refine lv_aload_n S.1 S.2.1 dl_156 rfl (lv_at hl 1 rfl) ?_
  refine lv_iload S.1 S.2.1 dl_157 (lv_at hl 5 rfl) ?_
  refine lv_iconst (v := 2) S.1 S.2.1 dl_159 (by decide) ?_
  refine lv_iadd S.1 S.2.1 dl_160 ?_
  refine va_sld S.1 S.2.1 hX hbl hbA hS hi.2.1 dl_161 ?_
  refine lv_aload_n S.1 S.2.1 dl_162 rfl (lv_at hl 1 rfl) ?_
  refine lv_iload S.1 S.2.1 dl_163 (lv_at hl 5 rfl) ?_
  refine lv_iconst (v := 3) S.1 S.2.1 dl_165 (by decide) ?_
  refine lv_iadd S.1 S.2.1 dl_166 ?_
  refine va_sld S.1 S.2.1 hX hbl hbA hS hi.2.2.1 dl_167 ?_
  refine lv_aload_n S.1 S.2.1 dl_168 rfl (lv_at hl 1 rfl) ?_
  refine lv_iload S.1 S.2.1 dl_169 (lv_at hl 5 rfl) ?_
  refine lv_iconst (v := 4) S.1 S.2.1 dl_171 (by decide) ?_
  refine lv_iadd S.1 S.2.1 dl_172 ?_
  refine va_sld S.1 S.2.1 hX hbl hbA hS hi.2.2.2.1 dl_173 ?_
  refine lv_aload_n S.1 S.2.1 dl_174 rfl (lv_at hl 1 rfl) ?_
  refine lv_iload S.1 S.2.1 dl_175 (lv_at hl 5 rfl) ?_
  refine lv_iconst (v := 5) S.1 S.2.1 dl_177 (by decide) ?_
  refine lv_iadd S.1 S.2.1 dl_178 ?_
  refine va_sld S.1 S.2.1 hX hbl hbA hS hi.2.2.2.2 dl_179 ?_
  refine gw_XM S E hS hP hD M cal_Md_feed wd_1465 wd_1466 wd_1464 rfl ⟨by omega, by omega⟩ (gw_rm E hP) rfl hl.1 rfl dl_180 (fun t H locs hS hP hD => ?_)
  refine lv_istore (lv' := [(6, .int bm), (5, .int kc), (0, .ref b), (1, .ref o), (2, .ref om), (3, .ref out), (4, .int i)]) S.1 S.2.1 dl_183 hl (by decide) rfl (fun ls hl => ?_)
  refine lv_aload_n S.1 S.2.1 dl_185 rfl (lv_at hl 4 rfl) ?_
  refine gw_XM (X := Unit) S E hS hP hD (T t) cal_Md_thrown wd_1461 wd_1462 wd_1460 rfl ⟨by omega, by omega⟩ (gw_rm E hP) rfl hl.1 rfl dl_186 (fun t1 H locs hS hP hD => ?_)
  refine lv_iload S.1 S.2.1 dl_189 (lv_at hl 1 rfl) ?_
  refine lv_icmp_eq (tgt := 196) S.1 S.2.1 dl_191 (by decide) (fun _ => ?_) (fun h => absurd hk h)
  refine lv_iload S.1 S.2.1 dl_196 (lv_at hl 1 rfl) ?_
  have fin : ∀ (H : Heap) (locs : List Loc), va_S (gx_A0 s) s.heap H locs → va_P D vwC (wCL g o q fq' out oc' v' ++ wMD g om u (qx t) (w' t)) H → va_D (gx_A0 s) (wCL g o q fq' out oc' v' ++ wMD g om u (qx t) (w' t)) → W p l e room_1 s m #[Value.ref b] below meth c H locs (cells + 1 + k) (slots + 6 + 2 * k) Q (F0 m 213 ls []) := by
    intro H locs hS hP hD
    refine lv_goto (tgt := 933) S.1 S.2.1 dl_213 (by decide) ?_
    exact K t H locs ls hS hP hD (lv_sub hl [2, 3, 4, 5, 6] rfl)
  refine lv_if_ne (tgt := 213) S.1 S.2.1 dl_198 (by decide) (fun _ => fin H locs hS hP hD) (fun hz => ?_)
  refine lv_aload_n S.1 S.2.1 dl_201 rfl (lv_at hl 5 rfl) ?_
  refine lv_iconst (v := 0) S.1 S.2.1 dl_202 (by decide) ?_
  refine va_lald S.1 S.2.1 E.1.1 hP 0 2 rfl rfl (gx_okv (by decide)) dl_203 ?_
  refine lv_iload S.1 S.2.1 dl_204 (lv_at hl 0 rfl) ?_
  refine lv_i2l S.1 S.2.1 dl_206 rfl ?_
  refine W.lcmp S.1 S.2.1 dl_207 ?_
  refine lv_if_eq (tgt := 213) S.1 S.2.1 dl_208 (by decide) (fun _ => fin H locs hS hP hD) (fun h => absurd ((lg_cmp_eq _ _).mpr (ha hz)) h)
set_option maxHeartbeats 4000000 in
set_option maxRecDepth 100000 in
theorem lo_1 {X : Type} {qx : X → Nat} {w' : X → MV} {bm : Int32} (S : CallFix p m c code 8 s #[Value.ref b] gtbl "NumberTextLaw") (E : gx_E s D g s (gx_A0 s)) (hX : va_X b L xs s s.heap) (hbl : b < s.heap.size) (hi : lw_in i L) (hS : va_S (gx_A0 s) s.heap H locs) (hP : va_P D vwC (wCL g o q fq out oc v ++ wMD g om u qb w) H) (hD : va_D (gx_A0 s) (wCL g o q fq out oc v ++ wMD g om u qb w)) (hl : lv_has ls 8 [(0, .ref b), (1, .ref o), (2, .ref om), (3, .ref out), (4, .int i)]) (C : LwH l s D g ({ cls := "NumberTextLaw", name := "end", desc := "(LNumberText;I[J)I" } : MethodName) method_4_code 4 [(0, 9, 12, 19)] fr lo [.ref o, .int (xs (i + (1 : Int32)).toNatClampNeg), .ref out] (wCL g o q fq out oc v) (wCL g o q fq' out oc' v') kc) (hrC : (Nat.ble (fr + 1) room_1.frames && Nat.ble (8 + (4 + 11) + lo) room_1.locals) = true) (M : LwX l s D g y_Md_end b_Md_end 2 1 22 k om [.int (xs (i + (1 : Int32)).toNatClampNeg)] (wMD g om u qb w) (fun t : X => wMD g om u (qx t) (w' t)) bm) (T : ∀ t : X, LwX (X := Unit) l s D g y_Md_thrown b_Md_thrown 1 0 0 0 om [] (wMD g om u (qx t) (w' t)) (fun _ => wMD g om u (qx t) (w' t)) kt) (hk : kt = kc) (ha : kc = 0 → oc' (0 : Int32).toNatClampNeg = bm.toInt64) (hroom : cells + 1 + k ≤ room_1.cells ∧ slots + 6 + 2 * k ≤ room_1.slots) (K : ∀ (t : X) (H1 : Heap) (locs1 : List Loc) (ls1 : Array Slot), va_S (gx_A0 s) s.heap H1 locs1 → va_P D vwC (wCL g o q fq' out oc' v' ++ wMD g om u (qx t) (w' t)) H1 → va_D (gx_A0 s) (wCL g o q fq' out oc' v' ++ wMD g om u (qx t) (w' t)) → lv_has ls1 8 [(0, .ref b), (1, .ref o), (2, .ref om), (3, .ref out), (4, .int i)] → W p l e room_1 s m #[Value.ref b] below meth c H1 locs1 (cells + 1 + k) (slots + 6 + 2 * k) Q (F0 m 933 ls1 [])) : W p l e room_1 s m #[Value.ref b] below meth c H locs cells slots Q (F0 m 216 ls []) := by
  have hbA : ¬ gx_A0 s b := Nat.not_le.mpr hbl
  refine lv_aload_n S.1 S.2.1 dl_216 rfl (lv_at hl 1 rfl) ?_
  refine lv_aload_n S.1 S.2.1 dl_217 rfl (lv_at hl 0 rfl) ?_
  refine lv_iload S.1 S.2.1 dl_218 (lv_at hl 4 rfl) ?_
  refine lv_iconst (v := 1) S.1 S.2.1 dl_220 (by decide) ?_
  refine lv_iadd S.1 S.2.1 dl_221 ?_
  refine va_sld S.1 S.2.1 hX hbl hbA hS hi.1 dl_222 ?_
  refine lv_aload_n S.1 S.2.1 dl_223 rfl (lv_at hl 3 rfl) ?_
  refine gw_H S E hS hP hD C calh_end wd_712 wd_711 hrC rfl hl.1 rfl dl_224 ⟨by omega, by omega⟩ (fun H locs hS hP hD => ?_)
  refine lv_istore (lv' := [(5, .int kc), (0, .ref b), (1, .ref o), (2, .ref om), (3, .ref out), (4, .int i)]) S.1 S.2.1 dl_227 hl (by decide) rfl (fun ls hl => ?_)
  refine lv_aload_n S.1 S.2.1 dl_229 rfl (lv_at hl 3 rfl) ?_
  refine lv_aload_n S.1 S.2.1 dl_230 rfl (lv_at hl 1 rfl) ?_
  refine lv_iload S.1 S.2.1 dl_231 (lv_at hl 5 rfl) ?_
  refine lv_iconst (v := 1) S.1 S.2.1 dl_233 (by decide) ?_
  refine lv_iadd S.1 S.2.1 dl_234 ?_
  refine va_sld S.1 S.2.1 hX hbl hbA hS hi.1 dl_235 ?_
  refine gw_XM S E hS hP hD M cal_Md_end wd_1477 wd_1478 wd_1476 rfl ⟨by omega, by omega⟩ (gw_rm E hP) rfl hl.1 rfl dl_236 (fun t H locs hS hP hD => ?_)
  refine lv_istore (lv' := [(6, .int bm), (5, .int kc), (0, .ref b), (1, .ref o), (2, .ref om), (3, .ref out), (4, .int i)]) S.1 S.2.1 dl_239 hl (by decide) rfl (fun ls hl => ?_)
  refine lv_aload_n S.1 S.2.1 dl_241 rfl (lv_at hl 4 rfl) ?_
  refine gw_XM (X := Unit) S E hS hP hD (T t) cal_Md_thrown wd_1461 wd_1462 wd_1460 rfl ⟨by omega, by omega⟩ (gw_rm E hP) rfl hl.1 rfl dl_242 (fun t1 H locs hS hP hD => ?_)
  refine lv_iload S.1 S.2.1 dl_245 (lv_at hl 1 rfl) ?_
  refine lv_icmp_eq (tgt := 252) S.1 S.2.1 dl_247 (by decide) (fun _ => ?_) (fun h => absurd hk h)
  refine lv_iload S.1 S.2.1 dl_252 (lv_at hl 1 rfl) ?_
  have fin : ∀ (H : Heap) (locs : List Loc), va_S (gx_A0 s) s.heap H locs → va_P D vwC (wCL g o q fq' out oc' v' ++ wMD g om u (qx t) (w' t)) H → va_D (gx_A0 s) (wCL g o q fq' out oc' v' ++ wMD g om u (qx t) (w' t)) → W p l e room_1 s m #[Value.ref b] below meth c H locs (cells + 1 + k) (slots + 6 + 2 * k) Q (F0 m 269 ls []) := by
    intro H locs hS hP hD
    refine lv_goto (tgt := 933) S.1 S.2.1 dl_269 (by decide) ?_
    exact K t H locs ls hS hP hD (lv_sub hl [2, 3, 4, 5, 6] rfl)
  refine lv_if_ne (tgt := 269) S.1 S.2.1 dl_254 (by decide) (fun _ => fin H locs hS hP hD) (fun hz => ?_)
  refine lv_aload_n S.1 S.2.1 dl_257 rfl (lv_at hl 5 rfl) ?_
  refine lv_iconst (v := 0) S.1 S.2.1 dl_258 (by decide) ?_
  refine va_lald S.1 S.2.1 E.1.1 hP 0 2 rfl rfl (gx_okv (by decide)) dl_259 ?_
  refine lv_iload S.1 S.2.1 dl_260 (lv_at hl 0 rfl) ?_
  refine lv_i2l S.1 S.2.1 dl_262 rfl ?_
  refine W.lcmp S.1 S.2.1 dl_263 ?_
  refine lv_if_eq (tgt := 269) S.1 S.2.1 dl_264 (by decide) (fun _ => fin H locs hS hP hD) (fun h => absurd ((lg_cmp_eq _ _).mpr (ha hz)) h)
set_option maxHeartbeats 4000000 in
set_option maxRecDepth 100000 in
theorem lo_2 {X : Type} {qx : X → Nat} {w' : X → MV} {bm : Int32} (S : CallFix p m c code 8 s #[Value.ref b] gtbl "NumberTextLaw") (E : gx_E s D g s (gx_A0 s)) (hX : va_X b L xs s s.heap) (hbl : b < s.heap.size) (hi : lw_in i L) (hS : va_S (gx_A0 s) s.heap H locs) (hP : va_P D vwC (wCL g o q fq out oc v ++ wMD g om u qb w) H) (hD : va_D (gx_A0 s) (wCL g o q fq out oc v ++ wMD g om u qb w)) (hl : lv_has ls 8 [(0, .ref b), (1, .ref o), (2, .ref om), (3, .ref out), (4, .int i)]) (C : LwX (X := Unit) l s D g y_Nt_print b_Nt_print 3 7 150 0 o [.long (lw_lng (xs (i + (1 : Int32)).toNatClampNeg) (xs (i + (2 : Int32)).toNatClampNeg))] (wCL g o q fq out oc v) (fun _ => wCL g o q fq' out oc' v') kc) (M : LwX l s D g y_Md_print b_Md_print 3 6 131 k om [.long (lw_lng (xs (i + (1 : Int32)).toNatClampNeg) (xs (i + (2 : Int32)).toNatClampNeg))] (wMD g om u qb w) (fun t : X => wMD g om u (qx t) (w' t)) bm) (hk : kc = bm) (hroom : cells + k ≤ room_1.cells ∧ slots + 2 * k ≤ room_1.slots) (K : ∀ (t : X) (H1 : Heap) (locs1 : List Loc) (ls1 : Array Slot), va_S (gx_A0 s) s.heap H1 locs1 → va_P D vwC (wCL g o q fq' out oc' v' ++ wMD g om u (qx t) (w' t)) H1 → va_D (gx_A0 s) (wCL g o q fq' out oc' v' ++ wMD g om u (qx t) (w' t)) → lv_has ls1 8 [(0, .ref b), (1, .ref o), (2, .ref om), (3, .ref out), (4, .int i)] → W p l e room_1 s m #[Value.ref b] below meth c H1 locs1 (cells + 0 + k) (slots + 0 + 2 * k) Q (F0 m 933 ls1 [])) : W p l e room_1 s m #[Value.ref b] below meth c H locs cells slots Q (F0 m 272 ls []) := by
  have hbA : ¬ gx_A0 s b := Nat.not_le.mpr hbl
  refine lv_aload_n S.1 S.2.1 dl_272 rfl (lv_at hl 1 rfl) ?_
  refine lv_aload_n S.1 S.2.1 dl_273 rfl (lv_at hl 0 rfl) ?_
  refine lv_iload S.1 S.2.1 dl_274 (lv_at hl 4 rfl) ?_
  refine lv_iconst (v := 1) S.1 S.2.1 dl_276 (by decide) ?_
  refine lv_iadd S.1 S.2.1 dl_277 ?_
  refine va_sld S.1 S.2.1 hX hbl hbA hS hi.1 dl_278 ?_
  refine lv_i2l S.1 S.2.1 dl_279 rfl ?_
  refine lv_bipush (v := 32) S.1 S.2.1 dl_280 (by decide) ?_
  refine lv_lshl S.1 S.2.1 dl_282 rfl ?_
  refine lv_aload_n S.1 S.2.1 dl_283 rfl (lv_at hl 0 rfl) ?_
  refine lv_iload S.1 S.2.1 dl_284 (lv_at hl 4 rfl) ?_
  refine lv_iconst (v := 2) S.1 S.2.1 dl_286 (by decide) ?_
  refine lv_iadd S.1 S.2.1 dl_287 ?_
  refine va_sld S.1 S.2.1 hX hbl hbA hS hi.2.1 dl_288 ?_
  refine lv_i2l S.1 S.2.1 dl_289 rfl ?_
  refine lv_ldc2 (v := 4294967295) S.1 S.2.1 S.2.2.2.1 (S.2.2.2.2 _ wd_1836) dl_290 ?_
  refine lv_land S.1 S.2.1 dl_293 ?_
  refine lv_lor S.1 S.2.1 dl_294 ?_
  refine gw_XC (X := Unit) S E hS hP hD C cal_Nt_print wd_394 wd_395 wd_393 rfl ⟨by omega, by omega⟩ (gw_ro E hP) rfl hl.1 rfl dl_295 (fun t0 H locs hS hP hD => ?_)
  refine lv_aload_n S.1 S.2.1 dl_298 rfl (lv_at hl 2 rfl) ?_
  refine lv_aload_n S.1 S.2.1 dl_299 rfl (lv_at hl 0 rfl) ?_
  refine lv_iload S.1 S.2.1 dl_300 (lv_at hl 4 rfl) ?_
  refine lv_iconst (v := 1) S.1 S.2.1 dl_302 (by decide) ?_
  refine lv_iadd S.1 S.2.1 dl_303 ?_
  refine va_sld S.1 S.2.1 hX hbl hbA hS hi.1 dl_304 ?_
  refine lv_i2l S.1 S.2.1 dl_305 rfl ?_
  refine lv_bipush (v := 32) S.1 S.2.1 dl_306 (by decide) ?_
  refine lv_lshl S.1 S.2.1 dl_308 rfl ?_
  refine lv_aload_n S.1 S.2.1 dl_309 rfl (lv_at hl 0 rfl) ?_
  refine lv_iload S.1 S.2.1 dl_310 (lv_at hl 4 rfl) ?_
  refine lv_iconst (v := 2) S.1 S.2.1 dl_312 (by decide) ?_
  refine lv_iadd S.1 S.2.1 dl_313 ?_
  refine va_sld S.1 S.2.1 hX hbl hbA hS hi.2.1 dl_314 ?_
  refine lv_i2l S.1 S.2.1 dl_315 rfl ?_
  refine lv_ldc2 (v := 4294967295) S.1 S.2.1 S.2.2.2.1 (S.2.2.2.2 _ wd_1836) dl_316 ?_
  refine lv_land S.1 S.2.1 dl_319 ?_
  refine lv_lor S.1 S.2.1 dl_320 ?_
  refine gw_XM S E hS hP hD M cal_Md_print wd_1486 wd_1487 wd_1485 rfl ⟨by omega, by omega⟩ (gw_rm E hP) rfl hl.1 rfl dl_321 (fun t H locs hS hP hD => ?_)
  refine lv_icmp_eq (tgt := 933) S.1 S.2.1 dl_324 (by decide) (fun _ => ?_) (fun h => absurd hk h)
  exact K t H locs ls hS hP hD (lv_sub hl [0, 1, 2, 3, 4] rfl)
set_option maxHeartbeats 4000000 in
set_option maxRecDepth 100000 in
theorem lo_3 {X : Type} {qx : X → Nat} {w' : X → MV} {bm : Int32} (S : CallFix p m c code 8 s #[Value.ref b] gtbl "NumberTextLaw") (E : gx_E s D g s (gx_A0 s)) (hX : va_X b L xs s s.heap) (hbl : b < s.heap.size) (hi : lw_in i L) (hS : va_S (gx_A0 s) s.heap H locs) (hP : va_P D vwC (wCL g o q fq out oc v ++ wMD g om u qb w) H) (hD : va_D (gx_A0 s) (wCL g o q fq out oc v ++ wMD g om u qb w)) (hl : lv_has ls 8 [(0, .ref b), (1, .ref o), (2, .ref om), (3, .ref out), (4, .int i)]) (C : LwX (X := Unit) l s D g y_Nt_printFloat b_Nt_printFloat 2 7 150 0 o [.int (xs (i + (1 : Int32)).toNatClampNeg)] (wCL g o q fq out oc v) (fun _ => wCL g o q fq' out oc' v') kc) (M : LwX l s D g y_Md_printFloat b_Md_printFloat 2 6 131 k om [.int (xs (i + (1 : Int32)).toNatClampNeg)] (wMD g om u qb w) (fun t : X => wMD g om u (qx t) (w' t)) bm) (hk : kc = bm) (hroom : cells + k ≤ room_1.cells ∧ slots + 2 * k ≤ room_1.slots) (K : ∀ (t : X) (H1 : Heap) (locs1 : List Loc) (ls1 : Array Slot), va_S (gx_A0 s) s.heap H1 locs1 → va_P D vwC (wCL g o q fq' out oc' v' ++ wMD g om u (qx t) (w' t)) H1 → va_D (gx_A0 s) (wCL g o q fq' out oc' v' ++ wMD g om u (qx t) (w' t)) → lv_has ls1 8 [(0, .ref b), (1, .ref o), (2, .ref om), (3, .ref out), (4, .int i)] → W p l e room_1 s m #[Value.ref b] below meth c H1 locs1 (cells + 0 + k) (slots + 0 + 2 * k) Q (F0 m 933 ls1 [])) : W p l e room_1 s m #[Value.ref b] below meth c H locs cells slots Q (F0 m 329 ls []) := by
  have hbA : ¬ gx_A0 s b := Nat.not_le.mpr hbl
  refine lv_aload_n S.1 S.2.1 dl_329 rfl (lv_at hl 1 rfl) ?_
  refine lv_aload_n S.1 S.2.1 dl_330 rfl (lv_at hl 0 rfl) ?_
  refine lv_iload S.1 S.2.1 dl_331 (lv_at hl 4 rfl) ?_
  refine lv_iconst (v := 1) S.1 S.2.1 dl_333 (by decide) ?_
  refine lv_iadd S.1 S.2.1 dl_334 ?_
  refine va_sld S.1 S.2.1 hX hbl hbA hS hi.1 dl_335 ?_
  refine gw_XC (X := Unit) S E hS hP hD C cal_Nt_printFloat wd_620 wd_621 wd_619 rfl ⟨by omega, by omega⟩ (gw_ro E hP) rfl hl.1 rfl dl_336 (fun t0 H locs hS hP hD => ?_)
  refine lv_aload_n S.1 S.2.1 dl_339 rfl (lv_at hl 2 rfl) ?_
  refine lv_aload_n S.1 S.2.1 dl_340 rfl (lv_at hl 0 rfl) ?_
  refine lv_iload S.1 S.2.1 dl_341 (lv_at hl 4 rfl) ?_
  refine lv_iconst (v := 1) S.1 S.2.1 dl_343 (by decide) ?_
  refine lv_iadd S.1 S.2.1 dl_344 ?_
  refine va_sld S.1 S.2.1 hX hbl hbA hS hi.1 dl_345 ?_
  refine gw_XM S E hS hP hD M cal_Md_printFloat wd_1603 wd_1604 wd_1602 rfl ⟨by omega, by omega⟩ (gw_rm E hP) rfl hl.1 rfl dl_346 (fun t H locs hS hP hD => ?_)
  refine lv_icmp_eq (tgt := 933) S.1 S.2.1 dl_349 (by decide) (fun _ => ?_) (fun h => absurd hk h)
  exact K t H locs ls hS hP hD (lv_sub hl [0, 1, 2, 3, 4] rfl)
set_option maxHeartbeats 4000000 in
set_option maxRecDepth 100000 in
theorem lo_4 {bm : Int64} (S : CallFix p m c code 8 s #[Value.ref b] gtbl "NumberTextLaw") (E : gx_E s D g s (gx_A0 s)) (hX : va_X b L xs s s.heap) (hbl : b < s.heap.size) (hi : lw_in i L) (hS : va_S (gx_A0 s) s.heap H locs) (hP : va_P D vwC (wCL g o q fq out oc v ++ wMD g om u qb w) H) (hD : va_D (gx_A0 s) (wCL g o q fq out oc v ++ wMD g om u qb w)) (hl : lv_has ls 8 [(0, .ref b), (1, .ref o), (2, .ref om), (3, .ref out), (4, .int i)]) (C : LwH l s D g ({ cls := "NumberTextLaw", name := "parse", desc := "(LNumberText;[J)I" } : MethodName) method_5_code 3 [(0, 7, 10, 25)] fr lo [.ref o, .ref out] (wCL g o q fq out oc v) (wCL g o q fq' out oc' v') kc) (hrC : (Nat.ble (fr + 1) room_1.frames && Nat.ble (8 + (3 + 11) + lo) room_1.locals) = true) (M : LwL l s D g y_Md_parse b_Md_parse 1 6 134 om [] (wMD g om u qb w) (wMD g om u qb w') bm) (T : LwX (X := Unit) l s D g y_Md_thrown b_Md_thrown 1 0 0 0 om [] (wMD g om u qb w') (fun _ => wMD g om u qb w') kt) (hk : kt = kc) (ha : kc = 0 → oc' (0 : Int32).toNatClampNeg = bm) (hroom : cells + 1 ≤ room_1.cells ∧ slots + 6 ≤ room_1.slots) (K : ∀ (H1 : Heap) (locs1 : List Loc) (ls1 : Array Slot), va_S (gx_A0 s) s.heap H1 locs1 → va_P D vwC (wCL g o q fq' out oc' v' ++ wMD g om u qb w') H1 → va_D (gx_A0 s) (wCL g o q fq' out oc' v' ++ wMD g om u qb w') → lv_has ls1 8 [(0, .ref b), (1, .ref o), (2, .ref om), (3, .ref out), (4, .int i)] → W p l e room_1 s m #[Value.ref b] below meth c H1 locs1 (cells + 1) (slots + 6) Q (F0 m 933 ls1 [])) : W p l e room_1 s m #[Value.ref b] below meth c H locs cells slots Q (F0 m 354 ls []) := by
  have hbA : ¬ gx_A0 s b := Nat.not_le.mpr hbl
  refine lv_aload_n S.1 S.2.1 dl_354 rfl (lv_at hl 1 rfl) ?_
  refine lv_aload_n S.1 S.2.1 dl_355 rfl (lv_at hl 3 rfl) ?_
  refine gw_H S E hS hP hD C calh_parse wd_736 wd_735 hrC rfl hl.1 rfl dl_356 ⟨by omega, by omega⟩ (fun H locs hS hP hD => ?_)
  refine lv_istore (lv' := [(5, .int kc), (0, .ref b), (1, .ref o), (2, .ref om), (3, .ref out), (4, .int i)]) S.1 S.2.1 dl_359 hl (by decide) rfl (fun ls hl => ?_)
  refine lv_aload_n S.1 S.2.1 dl_361 rfl (lv_at hl 3 rfl) ?_
  refine gw_LM S E hS hP hD M cal_Md_parse wd_1607 wd_1608 wd_1606 rfl (gw_rm E hP) rfl hl.1 rfl dl_362 ⟨by omega, by omega⟩ (fun H locs hS hP hD => ?_)
  refine lv_lstore (lv' := [(6, .long bm), (5, .int kc), (0, .ref b), (1, .ref o), (2, .ref om), (3, .ref out), (4, .int i)]) S.1 S.2.1 dl_365 hl (by decide) rfl (fun ls hl => ?_)
  refine lv_aload_n S.1 S.2.1 dl_367 rfl (lv_at hl 4 rfl) ?_
  refine gw_XM (X := Unit) S E hS hP hD T cal_Md_thrown wd_1461 wd_1462 wd_1460 rfl ⟨by omega, by omega⟩ (gw_rm E hP) rfl hl.1 rfl dl_368 (fun t1 H locs hS hP hD => ?_)
  refine lv_iload S.1 S.2.1 dl_371 (lv_at hl 1 rfl) ?_
  refine lv_icmp_eq (tgt := 378) S.1 S.2.1 dl_373 (by decide) (fun _ => ?_) (fun h => absurd hk h)
  refine lv_iload S.1 S.2.1 dl_378 (lv_at hl 1 rfl) ?_
  have fin : ∀ (H : Heap) (locs : List Loc), va_S (gx_A0 s) s.heap H locs → va_P D vwC (wCL g o q fq' out oc' v' ++ wMD g om u qb w') H → va_D (gx_A0 s) (wCL g o q fq' out oc' v' ++ wMD g om u qb w') → W p l e room_1 s m #[Value.ref b] below meth c H locs (cells + 1) (slots + 6) Q (F0 m 394 ls []) := by
    intro H locs hS hP hD
    refine lv_goto (tgt := 933) S.1 S.2.1 dl_394 (by decide) ?_
    exact K H locs ls hS hP hD (lv_sub hl [2, 3, 4, 5, 6] rfl)
  refine lv_if_ne (tgt := 394) S.1 S.2.1 dl_380 (by decide) (fun _ => fin H locs hS hP hD) (fun hz => ?_)
  refine lv_aload_n S.1 S.2.1 dl_383 rfl (lv_at hl 5 rfl) ?_
  refine lv_iconst (v := 0) S.1 S.2.1 dl_384 (by decide) ?_
  refine va_lald S.1 S.2.1 E.1.1 hP 0 2 rfl rfl (gx_okv (by decide)) dl_385 ?_
  refine lv_lload S.1 S.2.1 dl_386 (lv_at hl 0 rfl) ?_
  refine W.lcmp S.1 S.2.1 dl_388 ?_
  refine lv_if_eq (tgt := 394) S.1 S.2.1 dl_389 (by decide) (fun _ => fin H locs hS hP hD) (fun h => absurd ((lg_cmp_eq _ _).mpr (ha hz)) h)
set_option maxHeartbeats 4000000 in
set_option maxRecDepth 100000 in
theorem lo_5 {X : Type} {qx : X → Nat} {w' : X → MV} {bm : Int32} (S : CallFix p m c code 8 s #[Value.ref b] gtbl "NumberTextLaw") (E : gx_E s D g s (gx_A0 s)) (hX : va_X b L xs s s.heap) (hbl : b < s.heap.size) (hi : lw_in i L) (hS : va_S (gx_A0 s) s.heap H locs) (hP : va_P D vwC (wCL g o q fq out oc v ++ wMD g om u qb w) H) (hD : va_D (gx_A0 s) (wCL g o q fq out oc v ++ wMD g om u qb w)) (hl : lv_has ls 8 [(0, .ref b), (1, .ref o), (2, .ref om), (3, .ref out), (4, .int i)]) (C : LwH l s D g ({ cls := "NumberTextLaw", name := "parseFloat", desc := "(LNumberText;[J)I" } : MethodName) method_6_code 3 [(0, 8, 11, 25)] fr lo [.ref o, .ref out] (wCL g o q fq out oc v) (wCL g o q fq' out oc' v') kc) (hrC : (Nat.ble (fr + 1) room_1.frames && Nat.ble (8 + (3 + 11) + lo) room_1.locals) = true) (M : LwX l s D g y_Md_parseFloat b_Md_parseFloat 1 6 134 k om [] (wMD g om u qb w) (fun t : X => wMD g om u (qx t) (w' t)) bm) (T : ∀ t : X, LwX (X := Unit) l s D g y_Md_thrown b_Md_thrown 1 0 0 0 om [] (wMD g om u (qx t) (w' t)) (fun _ => wMD g om u (qx t) (w' t)) kt) (hk : kt = kc) (ha : kc = 0 → oc' (0 : Int32).toNatClampNeg = bm.toInt64) (hroom : cells + 1 + k ≤ room_1.cells ∧ slots + 6 + 2 * k ≤ room_1.slots) (K : ∀ (t : X) (H1 : Heap) (locs1 : List Loc) (ls1 : Array Slot), va_S (gx_A0 s) s.heap H1 locs1 → va_P D vwC (wCL g o q fq' out oc' v' ++ wMD g om u (qx t) (w' t)) H1 → va_D (gx_A0 s) (wCL g o q fq' out oc' v' ++ wMD g om u (qx t) (w' t)) → lv_has ls1 8 [(0, .ref b), (1, .ref o), (2, .ref om), (3, .ref out), (4, .int i)] → W p l e room_1 s m #[Value.ref b] below meth c H1 locs1 (cells + 1 + k) (slots + 6 + 2 * k) Q (F0 m 933 ls1 [])) : W p l e room_1 s m #[Value.ref b] below meth c H locs cells slots Q (F0 m 397 ls []) := by
  have hbA : ¬ gx_A0 s b := Nat.not_le.mpr hbl
  refine lv_aload_n S.1 S.2.1 dl_397 rfl (lv_at hl 1 rfl) ?_
  refine lv_aload_n S.1 S.2.1 dl_398 rfl (lv_at hl 3 rfl) ?_
  refine gw_H S E hS hP hD C calh_parseFloat wd_878 wd_877 hrC rfl hl.1 rfl dl_399 ⟨by omega, by omega⟩ (fun H locs hS hP hD => ?_)
  refine lv_istore (lv' := [(5, .int kc), (0, .ref b), (1, .ref o), (2, .ref om), (3, .ref out), (4, .int i)]) S.1 S.2.1 dl_402 hl (by decide) rfl (fun ls hl => ?_)
  refine lv_aload_n S.1 S.2.1 dl_404 rfl (lv_at hl 3 rfl) ?_
  refine gw_XM S E hS hP hD M cal_Md_parseFloat wd_1661 wd_1662 wd_1660 rfl ⟨by omega, by omega⟩ (gw_rm E hP) rfl hl.1 rfl dl_405 (fun t H locs hS hP hD => ?_)
  refine lv_istore (lv' := [(6, .int bm), (5, .int kc), (0, .ref b), (1, .ref o), (2, .ref om), (3, .ref out), (4, .int i)]) S.1 S.2.1 dl_408 hl (by decide) rfl (fun ls hl => ?_)
  refine lv_aload_n S.1 S.2.1 dl_410 rfl (lv_at hl 4 rfl) ?_
  refine gw_XM (X := Unit) S E hS hP hD (T t) cal_Md_thrown wd_1461 wd_1462 wd_1460 rfl ⟨by omega, by omega⟩ (gw_rm E hP) rfl hl.1 rfl dl_411 (fun t1 H locs hS hP hD => ?_)
  refine lv_iload S.1 S.2.1 dl_414 (lv_at hl 1 rfl) ?_
  refine lv_icmp_eq (tgt := 421) S.1 S.2.1 dl_416 (by decide) (fun _ => ?_) (fun h => absurd hk h)
  refine lv_iload S.1 S.2.1 dl_421 (lv_at hl 1 rfl) ?_
  have fin : ∀ (H : Heap) (locs : List Loc), va_S (gx_A0 s) s.heap H locs → va_P D vwC (wCL g o q fq' out oc' v' ++ wMD g om u (qx t) (w' t)) H → va_D (gx_A0 s) (wCL g o q fq' out oc' v' ++ wMD g om u (qx t) (w' t)) → W p l e room_1 s m #[Value.ref b] below meth c H locs (cells + 1 + k) (slots + 6 + 2 * k) Q (F0 m 438 ls []) := by
    intro H locs hS hP hD
    refine lv_goto (tgt := 933) S.1 S.2.1 dl_438 (by decide) ?_
    exact K t H locs ls hS hP hD (lv_sub hl [2, 3, 4, 5, 6] rfl)
  refine lv_if_ne (tgt := 438) S.1 S.2.1 dl_423 (by decide) (fun _ => fin H locs hS hP hD) (fun hz => ?_)
  refine lv_aload_n S.1 S.2.1 dl_426 rfl (lv_at hl 5 rfl) ?_
  refine lv_iconst (v := 0) S.1 S.2.1 dl_427 (by decide) ?_
  refine va_lald S.1 S.2.1 E.1.1 hP 0 2 rfl rfl (gx_okv (by decide)) dl_428 ?_
  refine lv_iload S.1 S.2.1 dl_429 (lv_at hl 0 rfl) ?_
  refine lv_i2l S.1 S.2.1 dl_431 rfl ?_
  refine W.lcmp S.1 S.2.1 dl_432 ?_
  refine lv_if_eq (tgt := 438) S.1 S.2.1 dl_433 (by decide) (fun _ => fin H locs hS hP hD) (fun h => absurd ((lg_cmp_eq _ _).mpr (ha hz)) h)
set_option maxHeartbeats 4000000 in
set_option maxRecDepth 100000 in
theorem lo_6 {X : Type} {qx : X → Nat} {w' : X → MV} {bm : Int32} (S : CallFix p m c code 8 s #[Value.ref b] gtbl "NumberTextLaw") (E : gx_E s D g s (gx_A0 s)) (hX : va_X b L xs s s.heap) (hbl : b < s.heap.size) (hi : lw_in i L) (hS : va_S (gx_A0 s) s.heap H locs) (hP : va_P D vwC (wCL g o q fq out oc v ++ wMD g om u qb w) H) (hD : va_D (gx_A0 s) (wCL g o q fq out oc v ++ wMD g om u qb w)) (hl : lv_has ls 8 [(0, .ref b), (1, .ref o), (2, .ref om), (3, .ref out), (4, .int i)]) (C : LwH l s D g ({ cls := "NumberTextLaw", name := "show", desc := "(LNumberText;IIJ[J)I" } : MethodName) method_7_code 7 [(0, 12, 15, 19)] fr lo [.ref o, .int (xs (i + (1 : Int32)).toNatClampNeg), .int (xs (i + (2 : Int32)).toNatClampNeg), .long (lw_lng (xs (i + (3 : Int32)).toNatClampNeg) (xs (i + (4 : Int32)).toNatClampNeg)), .ref out] (wCL g o q fq out oc v) (wCL g o q fq' out oc' v') kc) (hrC : (Nat.ble (fr + 1) room_1.frames && Nat.ble (8 + (7 + 11) + lo) room_1.locals) = true) (M : LwX l s D g y_Md_show b_Md_show 6 5 142 k om [.int (xs (i + (1 : Int32)).toNatClampNeg), .int (xs (i + (2 : Int32)).toNatClampNeg), .long (lw_lng (xs (i + (3 : Int32)).toNatClampNeg) (xs (i + (4 : Int32)).toNatClampNeg))] (wMD g om u qb w) (fun t : X => wMD g om u (qx t) (w' t)) bm) (T : ∀ t : X, LwX (X := Unit) l s D g y_Md_thrown b_Md_thrown 1 0 0 0 om [] (wMD g om u (qx t) (w' t)) (fun _ => wMD g om u (qx t) (w' t)) kt) (hk : kt = kc) (ha : kc = 0 → oc' (0 : Int32).toNatClampNeg = bm.toInt64) (hroom : cells + 1 + k ≤ room_1.cells ∧ slots + 6 + 2 * k ≤ room_1.slots) (K : ∀ (t : X) (H1 : Heap) (locs1 : List Loc) (ls1 : Array Slot), va_S (gx_A0 s) s.heap H1 locs1 → va_P D vwC (wCL g o q fq' out oc' v' ++ wMD g om u (qx t) (w' t)) H1 → va_D (gx_A0 s) (wCL g o q fq' out oc' v' ++ wMD g om u (qx t) (w' t)) → lv_has ls1 8 [(0, .ref b), (1, .ref o), (2, .ref om), (3, .ref out), (4, .int i)] → W p l e room_1 s m #[Value.ref b] below meth c H1 locs1 (cells + 1 + k) (slots + 6 + 2 * k) Q (F0 m 933 ls1 [])) : W p l e room_1 s m #[Value.ref b] below meth c H locs cells slots Q (F0 m 441 ls []) := by
  have hbA : ¬ gx_A0 s b := Nat.not_le.mpr hbl
  refine lv_aload_n S.1 S.2.1 dl_441 rfl (lv_at hl 1 rfl) ?_
  refine lv_aload_n S.1 S.2.1 dl_442 rfl (lv_at hl 0 rfl) ?_
  refine lv_iload S.1 S.2.1 dl_443 (lv_at hl 4 rfl) ?_
  refine lv_iconst (v := 1) S.1 S.2.1 dl_445 (by decide) ?_
  refine lv_iadd S.1 S.2.1 dl_446 ?_
  refine va_sld S.1 S.2.1 hX hbl hbA hS hi.1 dl_447 ?_
  refine lv_aload_n S.1 S.2.1 dl_448 rfl (lv_at hl 0 rfl) ?_
  refine lv_iload S.1 S.2.1 dl_449 (lv_at hl 4 rfl) ?_
  refine lv_iconst (v := 2) S.1 S.2.1 dl_451 (by decide) ?_
  refine lv_iadd S.1 S.2.1 dl_452 ?_
  refine va_sld S.1 S.2.1 hX hbl hbA hS hi.2.1 dl_453 ?_
  refine lv_aload_n S.1 S.2.1 dl_454 rfl (lv_at hl 0 rfl) ?_
  refine lv_iload S.1 S.2.1 dl_455 (lv_at hl 4 rfl) ?_
  refine lv_iconst (v := 3) S.1 S.2.1 dl_457 (by decide) ?_
  refine lv_iadd S.1 S.2.1 dl_458 ?_
  refine va_sld S.1 S.2.1 hX hbl hbA hS hi.2.2.1 dl_459 ?_
  refine lv_i2l S.1 S.2.1 dl_460 rfl ?_
  refine lv_bipush (v := 32) S.1 S.2.1 dl_461 (by decide) ?_
  refine lv_lshl S.1 S.2.1 dl_463 rfl ?_
  refine lv_aload_n S.1 S.2.1 dl_464 rfl (lv_at hl 0 rfl) ?_
  refine lv_iload S.1 S.2.1 dl_465 (lv_at hl 4 rfl) ?_
  refine lv_iconst (v := 4) S.1 S.2.1 dl_467 (by decide) ?_
  refine lv_iadd S.1 S.2.1 dl_468 ?_
  refine va_sld S.1 S.2.1 hX hbl hbA hS hi.2.2.2.1 dl_469 ?_
  refine lv_i2l S.1 S.2.1 dl_470 rfl ?_
  refine lv_ldc2 (v := 4294967295) S.1 S.2.1 S.2.2.2.1 (S.2.2.2.2 _ wd_1836) dl_471 ?_
  refine lv_land S.1 S.2.1 dl_474 ?_
  refine lv_lor S.1 S.2.1 dl_475 ?_
  refine lv_aload_n S.1 S.2.1 dl_476 rfl (lv_at hl 3 rfl) ?_
  refine gw_H S E hS hP hD C calh_show wd_885 wd_884 hrC rfl hl.1 rfl dl_477 ⟨by omega, by omega⟩ (fun H locs hS hP hD => ?_)
  refine lv_istore (lv' := [(5, .int kc), (0, .ref b), (1, .ref o), (2, .ref om), (3, .ref out), (4, .int i)]) S.1 S.2.1 dl_480 hl (by decide) rfl (fun ls hl => ?_)
  refine lv_aload_n S.1 S.2.1 dl_482 rfl (lv_at hl 3 rfl) ?_
  refine lv_aload_n S.1 S.2.1 dl_483 rfl (lv_at hl 1 rfl) ?_
  refine lv_iload S.1 S.2.1 dl_484 (lv_at hl 5 rfl) ?_
  refine lv_iconst (v := 1) S.1 S.2.1 dl_486 (by decide) ?_
  refine lv_iadd S.1 S.2.1 dl_487 ?_
  refine va_sld S.1 S.2.1 hX hbl hbA hS hi.1 dl_488 ?_
  refine lv_aload_n S.1 S.2.1 dl_489 rfl (lv_at hl 1 rfl) ?_
  refine lv_iload S.1 S.2.1 dl_490 (lv_at hl 5 rfl) ?_
  refine lv_iconst (v := 2) S.1 S.2.1 dl_492 (by decide) ?_
  refine lv_iadd S.1 S.2.1 dl_493 ?_
  refine va_sld S.1 S.2.1 hX hbl hbA hS hi.2.1 dl_494 ?_
  refine lv_aload_n S.1 S.2.1 dl_495 rfl (lv_at hl 1 rfl) ?_
  refine lv_iload S.1 S.2.1 dl_496 (lv_at hl 5 rfl) ?_
  refine lv_iconst (v := 3) S.1 S.2.1 dl_498 (by decide) ?_
  refine lv_iadd S.1 S.2.1 dl_499 ?_
  refine va_sld S.1 S.2.1 hX hbl hbA hS hi.2.2.1 dl_500 ?_
  refine lv_i2l S.1 S.2.1 dl_501 rfl ?_
  refine lv_bipush (v := 32) S.1 S.2.1 dl_502 (by decide) ?_
  refine lv_lshl S.1 S.2.1 dl_504 rfl ?_
  refine lv_aload_n S.1 S.2.1 dl_505 rfl (lv_at hl 1 rfl) ?_
  refine lv_iload S.1 S.2.1 dl_506 (lv_at hl 5 rfl) ?_
  refine lv_iconst (v := 4) S.1 S.2.1 dl_508 (by decide) ?_
  refine lv_iadd S.1 S.2.1 dl_509 ?_
  refine va_sld S.1 S.2.1 hX hbl hbA hS hi.2.2.2.1 dl_510 ?_
  refine lv_i2l S.1 S.2.1 dl_511 rfl ?_
  refine lv_ldc2 (v := 4294967295) S.1 S.2.1 S.2.2.2.1 (S.2.2.2.2 _ wd_1836) dl_512 ?_
  refine lv_land S.1 S.2.1 dl_515 ?_
  refine lv_lor S.1 S.2.1 dl_516 ?_
  refine gw_XM S E hS hP hD M cal_Md_show wd_1665 wd_1666 wd_1664 rfl ⟨by omega, by omega⟩ (gw_rm E hP) rfl hl.1 rfl dl_517 (fun t H locs hS hP hD => ?_)
  refine lv_istore (lv' := [(6, .int bm), (5, .int kc), (0, .ref b), (1, .ref o), (2, .ref om), (3, .ref out), (4, .int i)]) S.1 S.2.1 dl_520 hl (by decide) rfl (fun ls hl => ?_)
  refine lv_aload_n S.1 S.2.1 dl_522 rfl (lv_at hl 4 rfl) ?_
  refine gw_XM (X := Unit) S E hS hP hD (T t) cal_Md_thrown wd_1461 wd_1462 wd_1460 rfl ⟨by omega, by omega⟩ (gw_rm E hP) rfl hl.1 rfl dl_523 (fun t1 H locs hS hP hD => ?_)
  refine lv_iload S.1 S.2.1 dl_526 (lv_at hl 1 rfl) ?_
  refine lv_icmp_eq (tgt := 533) S.1 S.2.1 dl_528 (by decide) (fun _ => ?_) (fun h => absurd hk h)
  refine lv_iload S.1 S.2.1 dl_533 (lv_at hl 1 rfl) ?_
  have fin : ∀ (H : Heap) (locs : List Loc), va_S (gx_A0 s) s.heap H locs → va_P D vwC (wCL g o q fq' out oc' v' ++ wMD g om u (qx t) (w' t)) H → va_D (gx_A0 s) (wCL g o q fq' out oc' v' ++ wMD g om u (qx t) (w' t)) → W p l e room_1 s m #[Value.ref b] below meth c H locs (cells + 1 + k) (slots + 6 + 2 * k) Q (F0 m 550 ls []) := by
    intro H locs hS hP hD
    refine lv_goto (tgt := 933) S.1 S.2.1 dl_550 (by decide) ?_
    exact K t H locs ls hS hP hD (lv_sub hl [2, 3, 4, 5, 6] rfl)
  refine lv_if_ne (tgt := 550) S.1 S.2.1 dl_535 (by decide) (fun _ => fin H locs hS hP hD) (fun hz => ?_)
  refine lv_aload_n S.1 S.2.1 dl_538 rfl (lv_at hl 5 rfl) ?_
  refine lv_iconst (v := 0) S.1 S.2.1 dl_539 (by decide) ?_
  refine va_lald S.1 S.2.1 E.1.1 hP 0 2 rfl rfl (gx_okv (by decide)) dl_540 ?_
  refine lv_iload S.1 S.2.1 dl_541 (lv_at hl 0 rfl) ?_
  refine lv_i2l S.1 S.2.1 dl_543 rfl ?_
  refine W.lcmp S.1 S.2.1 dl_544 ?_
  refine lv_if_eq (tgt := 550) S.1 S.2.1 dl_545 (by decide) (fun _ => fin H locs hS hP hD) (fun h => absurd ((lg_cmp_eq _ _).mpr (ha hz)) h)
set_option maxHeartbeats 4000000 in
set_option maxRecDepth 100000 in
theorem lo_7 {X : Type} {qx : X → Nat} {w' : X → MV} {bm : Int32} (S : CallFix p m c code 8 s #[Value.ref b] gtbl "NumberTextLaw") (E : gx_E s D g s (gx_A0 s)) (hX : va_X b L xs s s.heap) (hbl : b < s.heap.size) (hi : lw_in i L) (hS : va_S (gx_A0 s) s.heap H locs) (hP : va_P D vwC (wCL g o q fq out oc v ++ wMD g om u qb w) H) (hD : va_D (gx_A0 s) (wCL g o q fq out oc v ++ wMD g om u qb w)) (hl : lv_has ls 8 [(0, .ref b), (1, .ref o), (2, .ref om), (3, .ref out), (4, .int i)]) (C : LwH l s D g ({ cls := "NumberTextLaw", name := "argument", desc := "(LNumberText;IJ[J)I" } : MethodName) method_8_code 6 [(0, 11, 14, 19), (0, 11, 18, 13), (0, 11, 22, 25)] fr lo [.ref o, .int (xs (i + (1 : Int32)).toNatClampNeg), .long (lw_lng (xs (i + (2 : Int32)).toNatClampNeg) (xs (i + (3 : Int32)).toNatClampNeg)), .ref out] (wCL g o q fq out oc v) (wCL g o q fq' out oc' v') kc) (hrC : (Nat.ble (fr + 1) room_1.frames && Nat.ble (8 + (6 + 11) + lo) room_1.locals) = true) (M : LwX l s D g y_Md_argument b_Md_argument 4 1 22 k om [.int (xs (i + (1 : Int32)).toNatClampNeg), .long (lw_lng (xs (i + (2 : Int32)).toNatClampNeg) (xs (i + (3 : Int32)).toNatClampNeg))] (wMD g om u qb w) (fun t : X => wMD g om u (qx t) (w' t)) bm) (T : ∀ t : X, LwX (X := Unit) l s D g y_Md_thrown b_Md_thrown 1 0 0 0 om [] (wMD g om u (qx t) (w' t)) (fun _ => wMD g om u (qx t) (w' t)) kt) (hk : kt = kc) (ha : kc = 0 → oc' (0 : Int32).toNatClampNeg = bm.toInt64) (hroom : cells + 1 + k ≤ room_1.cells ∧ slots + 6 + 2 * k ≤ room_1.slots) (K : ∀ (t : X) (H1 : Heap) (locs1 : List Loc) (ls1 : Array Slot), va_S (gx_A0 s) s.heap H1 locs1 → va_P D vwC (wCL g o q fq' out oc' v' ++ wMD g om u (qx t) (w' t)) H1 → va_D (gx_A0 s) (wCL g o q fq' out oc' v' ++ wMD g om u (qx t) (w' t)) → lv_has ls1 8 [(0, .ref b), (1, .ref o), (2, .ref om), (3, .ref out), (4, .int i)] → W p l e room_1 s m #[Value.ref b] below meth c H1 locs1 (cells + 1 + k) (slots + 6 + 2 * k) Q (F0 m 933 ls1 [])) : W p l e room_1 s m #[Value.ref b] below meth c H locs cells slots Q (F0 m 553 ls []) := by
  have hbA : ¬ gx_A0 s b := Nat.not_le.mpr hbl
  refine lv_aload_n S.1 S.2.1 dl_553 rfl (lv_at hl 1 rfl) ?_
  refine lv_aload_n S.1 S.2.1 dl_554 rfl (lv_at hl 0 rfl) ?_
  refine lv_iload S.1 S.2.1 dl_555 (lv_at hl 4 rfl) ?_
  refine lv_iconst (v := 1) S.1 S.2.1 dl_557 (by decide) ?_
  refine lv_iadd S.1 S.2.1 dl_558 ?_
  refine va_sld S.1 S.2.1 hX hbl hbA hS hi.1 dl_559 ?_
  refine lv_aload_n S.1 S.2.1 dl_560 rfl (lv_at hl 0 rfl) ?_
  refine lv_iload S.1 S.2.1 dl_561 (lv_at hl 4 rfl) ?_
  refine lv_iconst (v := 2) S.1 S.2.1 dl_563 (by decide) ?_
  refine lv_iadd S.1 S.2.1 dl_564 ?_
  refine va_sld S.1 S.2.1 hX hbl hbA hS hi.2.1 dl_565 ?_
  refine lv_i2l S.1 S.2.1 dl_566 rfl ?_
  refine lv_bipush (v := 32) S.1 S.2.1 dl_567 (by decide) ?_
  refine lv_lshl S.1 S.2.1 dl_569 rfl ?_
  refine lv_aload_n S.1 S.2.1 dl_570 rfl (lv_at hl 0 rfl) ?_
  refine lv_iload S.1 S.2.1 dl_571 (lv_at hl 4 rfl) ?_
  refine lv_iconst (v := 3) S.1 S.2.1 dl_573 (by decide) ?_
  refine lv_iadd S.1 S.2.1 dl_574 ?_
  refine va_sld S.1 S.2.1 hX hbl hbA hS hi.2.2.1 dl_575 ?_
  refine lv_i2l S.1 S.2.1 dl_576 rfl ?_
  refine lv_ldc2 (v := 4294967295) S.1 S.2.1 S.2.2.2.1 (S.2.2.2.2 _ wd_1836) dl_577 ?_
  refine lv_land S.1 S.2.1 dl_580 ?_
  refine lv_lor S.1 S.2.1 dl_581 ?_
  refine lv_aload_n S.1 S.2.1 dl_582 rfl (lv_at hl 3 rfl) ?_
  refine gw_H S E hS hP hD C calh_argument wd_1025 wd_1024 hrC rfl hl.1 rfl dl_583 ⟨by omega, by omega⟩ (fun H locs hS hP hD => ?_)
  refine lv_istore (lv' := [(5, .int kc), (0, .ref b), (1, .ref o), (2, .ref om), (3, .ref out), (4, .int i)]) S.1 S.2.1 dl_586 hl (by decide) rfl (fun ls hl => ?_)
  refine lv_aload_n S.1 S.2.1 dl_588 rfl (lv_at hl 3 rfl) ?_
  refine lv_aload_n S.1 S.2.1 dl_589 rfl (lv_at hl 1 rfl) ?_
  refine lv_iload S.1 S.2.1 dl_590 (lv_at hl 5 rfl) ?_
  refine lv_iconst (v := 1) S.1 S.2.1 dl_592 (by decide) ?_
  refine lv_iadd S.1 S.2.1 dl_593 ?_
  refine va_sld S.1 S.2.1 hX hbl hbA hS hi.1 dl_594 ?_
  refine lv_aload_n S.1 S.2.1 dl_595 rfl (lv_at hl 1 rfl) ?_
  refine lv_iload S.1 S.2.1 dl_596 (lv_at hl 5 rfl) ?_
  refine lv_iconst (v := 2) S.1 S.2.1 dl_598 (by decide) ?_
  refine lv_iadd S.1 S.2.1 dl_599 ?_
  refine va_sld S.1 S.2.1 hX hbl hbA hS hi.2.1 dl_600 ?_
  refine lv_i2l S.1 S.2.1 dl_601 rfl ?_
  refine lv_bipush (v := 32) S.1 S.2.1 dl_602 (by decide) ?_
  refine lv_lshl S.1 S.2.1 dl_604 rfl ?_
  refine lv_aload_n S.1 S.2.1 dl_605 rfl (lv_at hl 1 rfl) ?_
  refine lv_iload S.1 S.2.1 dl_606 (lv_at hl 5 rfl) ?_
  refine lv_iconst (v := 3) S.1 S.2.1 dl_608 (by decide) ?_
  refine lv_iadd S.1 S.2.1 dl_609 ?_
  refine va_sld S.1 S.2.1 hX hbl hbA hS hi.2.2.1 dl_610 ?_
  refine lv_i2l S.1 S.2.1 dl_611 rfl ?_
  refine lv_ldc2 (v := 4294967295) S.1 S.2.1 S.2.2.2.1 (S.2.2.2.2 _ wd_1836) dl_612 ?_
  refine lv_land S.1 S.2.1 dl_615 ?_
  refine lv_lor S.1 S.2.1 dl_616 ?_
  refine gw_XM S E hS hP hD M cal_Md_argument wd_1712 wd_1713 wd_1711 rfl ⟨by omega, by omega⟩ (gw_rm E hP) rfl hl.1 rfl dl_617 (fun t H locs hS hP hD => ?_)
  refine lv_istore (lv' := [(6, .int bm), (5, .int kc), (0, .ref b), (1, .ref o), (2, .ref om), (3, .ref out), (4, .int i)]) S.1 S.2.1 dl_620 hl (by decide) rfl (fun ls hl => ?_)
  refine lv_aload_n S.1 S.2.1 dl_622 rfl (lv_at hl 4 rfl) ?_
  refine gw_XM (X := Unit) S E hS hP hD (T t) cal_Md_thrown wd_1461 wd_1462 wd_1460 rfl ⟨by omega, by omega⟩ (gw_rm E hP) rfl hl.1 rfl dl_623 (fun t1 H locs hS hP hD => ?_)
  refine lv_iload S.1 S.2.1 dl_626 (lv_at hl 1 rfl) ?_
  refine lv_icmp_eq (tgt := 633) S.1 S.2.1 dl_628 (by decide) (fun _ => ?_) (fun h => absurd hk h)
  refine lv_iload S.1 S.2.1 dl_633 (lv_at hl 1 rfl) ?_
  have fin : ∀ (H : Heap) (locs : List Loc), va_S (gx_A0 s) s.heap H locs → va_P D vwC (wCL g o q fq' out oc' v' ++ wMD g om u (qx t) (w' t)) H → va_D (gx_A0 s) (wCL g o q fq' out oc' v' ++ wMD g om u (qx t) (w' t)) → W p l e room_1 s m #[Value.ref b] below meth c H locs (cells + 1 + k) (slots + 6 + 2 * k) Q (F0 m 650 ls []) := by
    intro H locs hS hP hD
    refine lv_goto (tgt := 933) S.1 S.2.1 dl_650 (by decide) ?_
    exact K t H locs ls hS hP hD (lv_sub hl [2, 3, 4, 5, 6] rfl)
  refine lv_if_ne (tgt := 650) S.1 S.2.1 dl_635 (by decide) (fun _ => fin H locs hS hP hD) (fun hz => ?_)
  refine lv_aload_n S.1 S.2.1 dl_638 rfl (lv_at hl 5 rfl) ?_
  refine lv_iconst (v := 0) S.1 S.2.1 dl_639 (by decide) ?_
  refine va_lald S.1 S.2.1 E.1.1 hP 0 2 rfl rfl (gx_okv (by decide)) dl_640 ?_
  refine lv_iload S.1 S.2.1 dl_641 (lv_at hl 0 rfl) ?_
  refine lv_i2l S.1 S.2.1 dl_643 rfl ?_
  refine W.lcmp S.1 S.2.1 dl_644 ?_
  refine lv_if_eq (tgt := 650) S.1 S.2.1 dl_645 (by decide) (fun _ => fin H locs hS hP hD) (fun h => absurd ((lg_cmp_eq _ _).mpr (ha hz)) h)
set_option maxHeartbeats 4000000 in
set_option maxRecDepth 100000 in
theorem lo_8 {X : Type} {qx : X → Nat} {w' : X → MV} {bm : Int32} (S : CallFix p m c code 8 s #[Value.ref b] gtbl "NumberTextLaw") (E : gx_E s D g s (gx_A0 s)) (hX : va_X b L xs s s.heap) (hbl : b < s.heap.size) (hi : lw_in i L) (hS : va_S (gx_A0 s) s.heap H locs) (hP : va_P D vwC (wCL g o q fq out oc v ++ wMD g om u qb w) H) (hD : va_D (gx_A0 s) (wCL g o q fq out oc v ++ wMD g om u qb w)) (hl : lv_has ls 8 [(0, .ref b), (1, .ref o), (2, .ref om), (3, .ref out), (4, .int i)]) (C : LwH l s D g ({ cls := "NumberTextLaw", name := "text", desc := "(LNumberText;[J)I" } : MethodName) method_9_code 3 [(0, 8, 11, 13)] fr lo [.ref o, .ref out] (wCL g o q fq out oc v) (wCL g o q fq' out oc' v') kc) (hrC : (Nat.ble (fr + 1) room_1.frames && Nat.ble (8 + (3 + 11) + lo) room_1.locals) = true) (M : LwX l s D g y_Md_text b_Md_text 3 1 22 k om [] (wMD g om u qb w) (fun t : X => wMD g om u (qx t) (w' t)) bm) (T : ∀ t : X, LwX (X := Unit) l s D g y_Md_thrown b_Md_thrown 1 0 0 0 om [] (wMD g om u (qx t) (w' t)) (fun _ => wMD g om u (qx t) (w' t)) kt) (hk : kt = kc) (ha : kc = 0 → oc' (0 : Int32).toNatClampNeg = bm.toInt64) (hroom : cells + 1 + k ≤ room_1.cells ∧ slots + 6 + 2 * k ≤ room_1.slots) (K : ∀ (t : X) (H1 : Heap) (locs1 : List Loc) (ls1 : Array Slot), va_S (gx_A0 s) s.heap H1 locs1 → va_P D vwC (wCL g o q fq' out oc' v' ++ wMD g om u (qx t) (w' t)) H1 → va_D (gx_A0 s) (wCL g o q fq' out oc' v' ++ wMD g om u (qx t) (w' t)) → lv_has ls1 8 [(0, .ref b), (1, .ref o), (2, .ref om), (3, .ref out), (4, .int i)] → W p l e room_1 s m #[Value.ref b] below meth c H1 locs1 (cells + 1 + k) (slots + 6 + 2 * k) Q (F0 m 933 ls1 [])) : W p l e room_1 s m #[Value.ref b] below meth c H locs cells slots Q (F0 m 653 ls []) := by
  have hbA : ¬ gx_A0 s b := Nat.not_le.mpr hbl
  refine lv_aload_n S.1 S.2.1 dl_653 rfl (lv_at hl 1 rfl) ?_
  refine lv_aload_n S.1 S.2.1 dl_654 rfl (lv_at hl 3 rfl) ?_
  refine gw_H S E hS hP hD C calh_text wd_1047 wd_1046 hrC rfl hl.1 rfl dl_655 ⟨by omega, by omega⟩ (fun H locs hS hP hD => ?_)
  refine lv_istore (lv' := [(5, .int kc), (0, .ref b), (1, .ref o), (2, .ref om), (3, .ref out), (4, .int i)]) S.1 S.2.1 dl_658 hl (by decide) rfl (fun ls hl => ?_)
  refine lv_aload_n S.1 S.2.1 dl_660 rfl (lv_at hl 3 rfl) ?_
  refine gw_XM S E hS hP hD M cal_Md_text wd_1718 wd_1719 wd_1717 rfl ⟨by omega, by omega⟩ (gw_rm E hP) rfl hl.1 rfl dl_661 (fun t H locs hS hP hD => ?_)
  refine lv_istore (lv' := [(6, .int bm), (5, .int kc), (0, .ref b), (1, .ref o), (2, .ref om), (3, .ref out), (4, .int i)]) S.1 S.2.1 dl_664 hl (by decide) rfl (fun ls hl => ?_)
  refine lv_aload_n S.1 S.2.1 dl_666 rfl (lv_at hl 4 rfl) ?_
  refine gw_XM (X := Unit) S E hS hP hD (T t) cal_Md_thrown wd_1461 wd_1462 wd_1460 rfl ⟨by omega, by omega⟩ (gw_rm E hP) rfl hl.1 rfl dl_667 (fun t1 H locs hS hP hD => ?_)
  refine lv_iload S.1 S.2.1 dl_670 (lv_at hl 1 rfl) ?_
  refine lv_icmp_eq (tgt := 677) S.1 S.2.1 dl_672 (by decide) (fun _ => ?_) (fun h => absurd hk h)
  refine lv_iload S.1 S.2.1 dl_677 (lv_at hl 1 rfl) ?_
  have fin : ∀ (H : Heap) (locs : List Loc), va_S (gx_A0 s) s.heap H locs → va_P D vwC (wCL g o q fq' out oc' v' ++ wMD g om u (qx t) (w' t)) H → va_D (gx_A0 s) (wCL g o q fq' out oc' v' ++ wMD g om u (qx t) (w' t)) → W p l e room_1 s m #[Value.ref b] below meth c H locs (cells + 1 + k) (slots + 6 + 2 * k) Q (F0 m 694 ls []) := by
    intro H locs hS hP hD
    refine lv_goto (tgt := 933) S.1 S.2.1 dl_694 (by decide) ?_
    exact K t H locs ls hS hP hD (lv_sub hl [2, 3, 4, 5, 6] rfl)
  refine lv_if_ne (tgt := 694) S.1 S.2.1 dl_679 (by decide) (fun _ => fin H locs hS hP hD) (fun hz => ?_)
  refine lv_aload_n S.1 S.2.1 dl_682 rfl (lv_at hl 5 rfl) ?_
  refine lv_iconst (v := 0) S.1 S.2.1 dl_683 (by decide) ?_
  refine va_lald S.1 S.2.1 E.1.1 hP 0 2 rfl rfl (gx_okv (by decide)) dl_684 ?_
  refine lv_iload S.1 S.2.1 dl_685 (lv_at hl 0 rfl) ?_
  refine lv_i2l S.1 S.2.1 dl_687 rfl ?_
  refine W.lcmp S.1 S.2.1 dl_688 ?_
  refine lv_if_eq (tgt := 694) S.1 S.2.1 dl_689 (by decide) (fun _ => fin H locs hS hP hD) (fun h => absurd ((lg_cmp_eq _ _).mpr (ha hz)) h)
set_option maxHeartbeats 4000000 in
set_option maxRecDepth 100000 in
theorem lo_9 {X : Type} {qx : X → Nat} {w' : X → MV} {bm : Int32} (S : CallFix p m c code 8 s #[Value.ref b] gtbl "NumberTextLaw") (E : gx_E s D g s (gx_A0 s)) (hX : va_X b L xs s s.heap) (hbl : b < s.heap.size) (hi : lw_in i L) (hS : va_S (gx_A0 s) s.heap H locs) (hP : va_P D vwC (wCL g o q fq out oc v ++ wMD g om u qb w) H) (hD : va_D (gx_A0 s) (wCL g o q fq out oc v ++ wMD g om u qb w)) (hl : lv_has ls 8 [(0, .ref b), (1, .ref o), (2, .ref om), (3, .ref out), (4, .int i)]) (C : LwX (X := Unit) l s D g y_Nt_clear b_Nt_clear 2 0 0 0 o [] (wCL g o q fq out oc v) (fun _ => wCL g o q fq' out oc' v') kc) (M : LwX l s D g y_Md_clear b_Md_clear 2 0 0 k om [] (wMD g om u qb w) (fun t : X => wMD g om u (qx t) (w' t)) bm) (hk : kc = bm) (hroom : cells + k ≤ room_1.cells ∧ slots + 2 * k ≤ room_1.slots) (K : ∀ (t : X) (H1 : Heap) (locs1 : List Loc) (ls1 : Array Slot), va_S (gx_A0 s) s.heap H1 locs1 → va_P D vwC (wCL g o q fq' out oc' v' ++ wMD g om u (qx t) (w' t)) H1 → va_D (gx_A0 s) (wCL g o q fq' out oc' v' ++ wMD g om u (qx t) (w' t)) → lv_has ls1 8 [(0, .ref b), (1, .ref o), (2, .ref om), (3, .ref out), (4, .int i)] → W p l e room_1 s m #[Value.ref b] below meth c H1 locs1 (cells + 0 + k) (slots + 0 + 2 * k) Q (F0 m 933 ls1 [])) : W p l e room_1 s m #[Value.ref b] below meth c H locs cells slots Q (F0 m 697 ls []) := by
  have hbA : ¬ gx_A0 s b := Nat.not_le.mpr hbl
  refine lv_aload_n S.1 S.2.1 dl_697 rfl (lv_at hl 1 rfl) ?_
  refine gw_XC (X := Unit) S E hS hP hD C cal_Nt_clear wd_626 wd_627 wd_625 rfl ⟨by omega, by omega⟩ (gw_ro E hP) rfl hl.1 rfl dl_698 (fun t0 H locs hS hP hD => ?_)
  refine lv_aload_n S.1 S.2.1 dl_701 rfl (lv_at hl 2 rfl) ?_
  refine gw_XM S E hS hP hD M cal_Md_clear wd_1722 wd_1723 wd_1721 rfl ⟨by omega, by omega⟩ (gw_rm E hP) rfl hl.1 rfl dl_702 (fun t H locs hS hP hD => ?_)
  refine lv_icmp_eq (tgt := 933) S.1 S.2.1 dl_705 (by decide) (fun _ => ?_) (fun h => absurd hk h)
  exact K t H locs ls hS hP hD (lv_sub hl [0, 1, 2, 3, 4] rfl)
set_option maxHeartbeats 4000000 in
set_option maxRecDepth 100000 in
theorem lo_10 {X : Type} {qx : X → Nat} {w' : X → MV} {bm : Int32} (S : CallFix p m c code 8 s #[Value.ref b] gtbl "NumberTextLaw") (E : gx_E s D g s (gx_A0 s)) (hX : va_X b L xs s s.heap) (hbl : b < s.heap.size) (hi : lw_in i L) (hS : va_S (gx_A0 s) s.heap H locs) (hP : va_P D vwC (wCL g o q fq out oc v ++ wMD g om u qb w) H) (hD : va_D (gx_A0 s) (wCL g o q fq out oc v ++ wMD g om u qb w)) (hl : lv_has ls 8 [(0, .ref b), (1, .ref o), (2, .ref om), (3, .ref out), (4, .int i)]) (C : LwH l s D g ({ cls := "NumberTextLaw", name := "compile", desc := "(LNumberText;I[J)I" } : MethodName) method_10_code 4 [(0, 9, 12, 19), (0, 9, 15, 13), (0, 9, 18, 25), (0, 9, 21, 45)] fr lo [.ref o, .int (xs (i + (1 : Int32)).toNatClampNeg), .ref out] (wCL g o q fq out oc v) (wCL g o q fq' out oc' v') kc) (hrC : (Nat.ble (fr + 1) room_1.frames && Nat.ble (8 + (4 + 11) + lo) room_1.locals) = true) (M : LwX l s D g y_Md_compile b_Md_compile 5 6 135 k om [.int (xs (i + (1 : Int32)).toNatClampNeg)] (wMD g om u qb w) (fun t : X => wMD g om u (qx t) (w' t)) bm) (T : ∀ t : X, LwX (X := Unit) l s D g y_Md_thrown b_Md_thrown 1 0 0 0 om [] (wMD g om u (qx t) (w' t)) (fun _ => wMD g om u (qx t) (w' t)) kt) (hk : kt = kc) (ha : kc = 0 → oc' (0 : Int32).toNatClampNeg = bm.toInt64) (hroom : cells + 1 + k ≤ room_1.cells ∧ slots + 6 + 2 * k ≤ room_1.slots) (K : ∀ (t : X) (H1 : Heap) (locs1 : List Loc) (ls1 : Array Slot), va_S (gx_A0 s) s.heap H1 locs1 → va_P D vwC (wCL g o q fq' out oc' v' ++ wMD g om u (qx t) (w' t)) H1 → va_D (gx_A0 s) (wCL g o q fq' out oc' v' ++ wMD g om u (qx t) (w' t)) → lv_has ls1 8 [(0, .ref b), (1, .ref o), (2, .ref om), (3, .ref out), (4, .int i)] → W p l e room_1 s m #[Value.ref b] below meth c H1 locs1 (cells + 1 + k) (slots + 6 + 2 * k) Q (F0 m 933 ls1 [])) : W p l e room_1 s m #[Value.ref b] below meth c H locs cells slots Q (F0 m 710 ls []) := by
  have hbA : ¬ gx_A0 s b := Nat.not_le.mpr hbl
  refine lv_aload_n S.1 S.2.1 dl_710 rfl (lv_at hl 1 rfl) ?_
  refine lv_aload_n S.1 S.2.1 dl_711 rfl (lv_at hl 0 rfl) ?_
  refine lv_iload S.1 S.2.1 dl_712 (lv_at hl 4 rfl) ?_
  refine lv_iconst (v := 1) S.1 S.2.1 dl_714 (by decide) ?_
  refine lv_iadd S.1 S.2.1 dl_715 ?_
  refine va_sld S.1 S.2.1 hX hbl hbA hS hi.1 dl_716 ?_
  refine lv_aload_n S.1 S.2.1 dl_717 rfl (lv_at hl 3 rfl) ?_
  refine gw_H S E hS hP hD C calh_compile wd_1066 wd_1065 hrC rfl hl.1 rfl dl_718 ⟨by omega, by omega⟩ (fun H locs hS hP hD => ?_)
  refine lv_istore (lv' := [(5, .int kc), (0, .ref b), (1, .ref o), (2, .ref om), (3, .ref out), (4, .int i)]) S.1 S.2.1 dl_721 hl (by decide) rfl (fun ls hl => ?_)
  refine lv_aload_n S.1 S.2.1 dl_723 rfl (lv_at hl 3 rfl) ?_
  refine lv_aload_n S.1 S.2.1 dl_724 rfl (lv_at hl 1 rfl) ?_
  refine lv_iload S.1 S.2.1 dl_725 (lv_at hl 5 rfl) ?_
  refine lv_iconst (v := 1) S.1 S.2.1 dl_727 (by decide) ?_
  refine lv_iadd S.1 S.2.1 dl_728 ?_
  refine va_sld S.1 S.2.1 hX hbl hbA hS hi.1 dl_729 ?_
  refine gw_XM S E hS hP hD M cal_Md_compile wd_1726 wd_1727 wd_1725 rfl ⟨by omega, by omega⟩ (gw_rm E hP) rfl hl.1 rfl dl_730 (fun t H locs hS hP hD => ?_)
  refine lv_istore (lv' := [(6, .int bm), (5, .int kc), (0, .ref b), (1, .ref o), (2, .ref om), (3, .ref out), (4, .int i)]) S.1 S.2.1 dl_733 hl (by decide) rfl (fun ls hl => ?_)
  refine lv_aload_n S.1 S.2.1 dl_735 rfl (lv_at hl 4 rfl) ?_
  refine gw_XM (X := Unit) S E hS hP hD (T t) cal_Md_thrown wd_1461 wd_1462 wd_1460 rfl ⟨by omega, by omega⟩ (gw_rm E hP) rfl hl.1 rfl dl_736 (fun t1 H locs hS hP hD => ?_)
  refine lv_iload S.1 S.2.1 dl_739 (lv_at hl 1 rfl) ?_
  refine lv_icmp_eq (tgt := 746) S.1 S.2.1 dl_741 (by decide) (fun _ => ?_) (fun h => absurd hk h)
  refine lv_iload S.1 S.2.1 dl_746 (lv_at hl 1 rfl) ?_
  have fin : ∀ (H : Heap) (locs : List Loc), va_S (gx_A0 s) s.heap H locs → va_P D vwC (wCL g o q fq' out oc' v' ++ wMD g om u (qx t) (w' t)) H → va_D (gx_A0 s) (wCL g o q fq' out oc' v' ++ wMD g om u (qx t) (w' t)) → W p l e room_1 s m #[Value.ref b] below meth c H locs (cells + 1 + k) (slots + 6 + 2 * k) Q (F0 m 763 ls []) := by
    intro H locs hS hP hD
    refine lv_goto (tgt := 933) S.1 S.2.1 dl_763 (by decide) ?_
    exact K t H locs ls hS hP hD (lv_sub hl [2, 3, 4, 5, 6] rfl)
  refine lv_if_ne (tgt := 763) S.1 S.2.1 dl_748 (by decide) (fun _ => fin H locs hS hP hD) (fun hz => ?_)
  refine lv_aload_n S.1 S.2.1 dl_751 rfl (lv_at hl 5 rfl) ?_
  refine lv_iconst (v := 0) S.1 S.2.1 dl_752 (by decide) ?_
  refine va_lald S.1 S.2.1 E.1.1 hP 0 2 rfl rfl (gx_okv (by decide)) dl_753 ?_
  refine lv_iload S.1 S.2.1 dl_754 (lv_at hl 0 rfl) ?_
  refine lv_i2l S.1 S.2.1 dl_756 rfl ?_
  refine W.lcmp S.1 S.2.1 dl_757 ?_
  refine lv_if_eq (tgt := 763) S.1 S.2.1 dl_758 (by decide) (fun _ => fin H locs hS hP hD) (fun h => absurd ((lg_cmp_eq _ _).mpr (ha hz)) h)
set_option maxHeartbeats 4000000 in
set_option maxRecDepth 100000 in
theorem lo_11 {X : Type} {qx : X → Nat} {w' : X → MV} {bm : Int32} (S : CallFix p m c code 8 s #[Value.ref b] gtbl "NumberTextLaw") (E : gx_E s D g s (gx_A0 s)) (hX : va_X b L xs s s.heap) (hbl : b < s.heap.size) (hi : lw_in i L) (hS : va_S (gx_A0 s) s.heap H locs) (hP : va_P D vwC (wCL g o q fq out oc v ++ wMD g om u qb w) H) (hD : va_D (gx_A0 s) (wCL g o q fq out oc v ++ wMD g om u qb w)) (hl : lv_has ls 8 [(0, .ref b), (1, .ref o), (2, .ref om), (3, .ref out), (4, .int i)]) (C : LwH l s D g ({ cls := "NumberTextLaw", name := "format", desc := "(LNumberText;I[J)I" } : MethodName) method_11_code 4 [(0, 9, 12, 19), (0, 9, 15, 45), (0, 9, 18, 50), (0, 9, 21, 25), (0, 9, 24, 13)] fr lo [.ref o, .int (xs (i + (1 : Int32)).toNatClampNeg), .ref out] (wCL g o q fq out oc v) (wCL g o q fq' out oc' v') kc) (hrC : (Nat.ble (fr + 1) room_1.frames && Nat.ble (8 + (4 + 11) + lo) room_1.locals) = true) (M : LwX l s D g y_Md_format b_Md_format 4 8 188 k om [.int (xs (i + (1 : Int32)).toNatClampNeg)] (wMD g om u qb w) (fun t : X => wMD g om u (qx t) (w' t)) bm) (T : ∀ t : X, LwX (X := Unit) l s D g y_Md_thrown b_Md_thrown 1 0 0 0 om [] (wMD g om u (qx t) (w' t)) (fun _ => wMD g om u (qx t) (w' t)) kt) (hk : kt = kc) (ha : kc = 0 → oc' (0 : Int32).toNatClampNeg = bm.toInt64) (hroom : cells + 1 + k ≤ room_1.cells ∧ slots + 6 + 2 * k ≤ room_1.slots) (K : ∀ (t : X) (H1 : Heap) (locs1 : List Loc) (ls1 : Array Slot), va_S (gx_A0 s) s.heap H1 locs1 → va_P D vwC (wCL g o q fq' out oc' v' ++ wMD g om u (qx t) (w' t)) H1 → va_D (gx_A0 s) (wCL g o q fq' out oc' v' ++ wMD g om u (qx t) (w' t)) → lv_has ls1 8 [(0, .ref b), (1, .ref o), (2, .ref om), (3, .ref out), (4, .int i)] → W p l e room_1 s m #[Value.ref b] below meth c H1 locs1 (cells + 1 + k) (slots + 6 + 2 * k) Q (F0 m 933 ls1 [])) : W p l e room_1 s m #[Value.ref b] below meth c H locs cells slots Q (F0 m 766 ls []) := by
  have hbA : ¬ gx_A0 s b := Nat.not_le.mpr hbl
  refine lv_aload_n S.1 S.2.1 dl_766 rfl (lv_at hl 1 rfl) ?_
  refine lv_aload_n S.1 S.2.1 dl_767 rfl (lv_at hl 0 rfl) ?_
  refine lv_iload S.1 S.2.1 dl_768 (lv_at hl 4 rfl) ?_
  refine lv_iconst (v := 1) S.1 S.2.1 dl_770 (by decide) ?_
  refine lv_iadd S.1 S.2.1 dl_771 ?_
  refine va_sld S.1 S.2.1 hX hbl hbA hS hi.1 dl_772 ?_
  refine lv_aload_n S.1 S.2.1 dl_773 rfl (lv_at hl 3 rfl) ?_
  refine gw_H S E hS hP hD C calh_format wd_1204 wd_1203 hrC rfl hl.1 rfl dl_774 ⟨by omega, by omega⟩ (fun H locs hS hP hD => ?_)
  refine lv_istore (lv' := [(5, .int kc), (0, .ref b), (1, .ref o), (2, .ref om), (3, .ref out), (4, .int i)]) S.1 S.2.1 dl_777 hl (by decide) rfl (fun ls hl => ?_)
  refine lv_aload_n S.1 S.2.1 dl_779 rfl (lv_at hl 3 rfl) ?_
  refine lv_aload_n S.1 S.2.1 dl_780 rfl (lv_at hl 1 rfl) ?_
  refine lv_iload S.1 S.2.1 dl_781 (lv_at hl 5 rfl) ?_
  refine lv_iconst (v := 1) S.1 S.2.1 dl_783 (by decide) ?_
  refine lv_iadd S.1 S.2.1 dl_784 ?_
  refine va_sld S.1 S.2.1 hX hbl hbA hS hi.1 dl_785 ?_
  refine gw_XM S E hS hP hD M cal_Md_format wd_1769 wd_1770 wd_1768 rfl ⟨by omega, by omega⟩ (gw_rm E hP) rfl hl.1 rfl dl_786 (fun t H locs hS hP hD => ?_)
  refine lv_istore (lv' := [(6, .int bm), (5, .int kc), (0, .ref b), (1, .ref o), (2, .ref om), (3, .ref out), (4, .int i)]) S.1 S.2.1 dl_789 hl (by decide) rfl (fun ls hl => ?_)
  refine lv_aload_n S.1 S.2.1 dl_791 rfl (lv_at hl 4 rfl) ?_
  refine gw_XM (X := Unit) S E hS hP hD (T t) cal_Md_thrown wd_1461 wd_1462 wd_1460 rfl ⟨by omega, by omega⟩ (gw_rm E hP) rfl hl.1 rfl dl_792 (fun t1 H locs hS hP hD => ?_)
  refine lv_iload S.1 S.2.1 dl_795 (lv_at hl 1 rfl) ?_
  refine lv_icmp_eq (tgt := 802) S.1 S.2.1 dl_797 (by decide) (fun _ => ?_) (fun h => absurd hk h)
  refine lv_iload S.1 S.2.1 dl_802 (lv_at hl 1 rfl) ?_
  have fin : ∀ (H : Heap) (locs : List Loc), va_S (gx_A0 s) s.heap H locs → va_P D vwC (wCL g o q fq' out oc' v' ++ wMD g om u (qx t) (w' t)) H → va_D (gx_A0 s) (wCL g o q fq' out oc' v' ++ wMD g om u (qx t) (w' t)) → W p l e room_1 s m #[Value.ref b] below meth c H locs (cells + 1 + k) (slots + 6 + 2 * k) Q (F0 m 819 ls []) := by
    intro H locs hS hP hD
    refine lv_goto (tgt := 933) S.1 S.2.1 dl_819 (by decide) ?_
    exact K t H locs ls hS hP hD (lv_sub hl [2, 3, 4, 5, 6] rfl)
  refine lv_if_ne (tgt := 819) S.1 S.2.1 dl_804 (by decide) (fun _ => fin H locs hS hP hD) (fun hz => ?_)
  refine lv_aload_n S.1 S.2.1 dl_807 rfl (lv_at hl 5 rfl) ?_
  refine lv_iconst (v := 0) S.1 S.2.1 dl_808 (by decide) ?_
  refine va_lald S.1 S.2.1 E.1.1 hP 0 2 rfl rfl (gx_okv (by decide)) dl_809 ?_
  refine lv_iload S.1 S.2.1 dl_810 (lv_at hl 0 rfl) ?_
  refine lv_i2l S.1 S.2.1 dl_812 rfl ?_
  refine W.lcmp S.1 S.2.1 dl_813 ?_
  refine lv_if_eq (tgt := 819) S.1 S.2.1 dl_814 (by decide) (fun _ => fin H locs hS hP hD) (fun h => absurd ((lg_cmp_eq _ _).mpr (ha hz)) h)
set_option maxHeartbeats 4000000 in
set_option maxRecDepth 100000 in
theorem lo_12 {bm : Int64} (S : CallFix p m c code 8 s #[Value.ref b] gtbl "NumberTextLaw") (E : gx_E s D g s (gx_A0 s)) (hX : va_X b L xs s s.heap) (hbl : b < s.heap.size) (hi : lw_in i L) (hS : va_S (gx_A0 s) s.heap H locs) (hP : va_P D vwC (wCL g o q fq out oc v ++ wMD g om u qb w) H) (hD : va_D (gx_A0 s) (wCL g o q fq out oc v ++ wMD g om u qb w)) (hl : lv_has ls 8 [(0, .ref b), (1, .ref o), (2, .ref om), (3, .ref out), (4, .int i)]) (C : LwH l s D g ({ cls := "NumberTextLaw", name := "word", desc := "(LNumberText;I[J)I" } : MethodName) method_12_code 4 [(0, 8, 11, 13)] fr lo [.ref o, .int (xs (i + (1 : Int32)).toNatClampNeg), .ref out] (wCL g o q fq out oc v) (wCL g o q fq' out oc' v') kc) (hrC : (Nat.ble (fr + 1) room_1.frames && Nat.ble (8 + (4 + 11) + lo) room_1.locals) = true) (M : LwL l s D g y_Md_word b_Md_word 5 1 22 om [.int (xs (i + (1 : Int32)).toNatClampNeg)] (wMD g om u qb w) (wMD g om u qb w') bm) (T : LwX (X := Unit) l s D g y_Md_thrown b_Md_thrown 1 0 0 0 om [] (wMD g om u qb w') (fun _ => wMD g om u qb w') kt) (hk : kt = kc) (ha : kc = 0 → oc' (0 : Int32).toNatClampNeg = bm) (hroom : cells + 1 ≤ room_1.cells ∧ slots + 6 ≤ room_1.slots) (K : ∀ (H1 : Heap) (locs1 : List Loc) (ls1 : Array Slot), va_S (gx_A0 s) s.heap H1 locs1 → va_P D vwC (wCL g o q fq' out oc' v' ++ wMD g om u qb w') H1 → va_D (gx_A0 s) (wCL g o q fq' out oc' v' ++ wMD g om u qb w') → lv_has ls1 8 [(0, .ref b), (1, .ref o), (2, .ref om), (3, .ref out), (4, .int i)] → W p l e room_1 s m #[Value.ref b] below meth c H1 locs1 (cells + 1) (slots + 6) Q (F0 m 933 ls1 [])) : W p l e room_1 s m #[Value.ref b] below meth c H locs cells slots Q (F0 m 822 ls []) := by
  have hbA : ¬ gx_A0 s b := Nat.not_le.mpr hbl
  refine lv_aload_n S.1 S.2.1 dl_822 rfl (lv_at hl 1 rfl) ?_
  refine lv_aload_n S.1 S.2.1 dl_823 rfl (lv_at hl 0 rfl) ?_
  refine lv_iload S.1 S.2.1 dl_824 (lv_at hl 4 rfl) ?_
  refine lv_iconst (v := 1) S.1 S.2.1 dl_826 (by decide) ?_
  refine lv_iadd S.1 S.2.1 dl_827 ?_
  refine va_sld S.1 S.2.1 hX hbl hbA hS hi.1 dl_828 ?_
  refine lv_aload_n S.1 S.2.1 dl_829 rfl (lv_at hl 3 rfl) ?_
  refine gw_H S E hS hP hD C calh_word wd_1265 wd_1264 hrC rfl hl.1 rfl dl_830 ⟨by omega, by omega⟩ (fun H locs hS hP hD => ?_)
  refine lv_istore (lv' := [(5, .int kc), (0, .ref b), (1, .ref o), (2, .ref om), (3, .ref out), (4, .int i)]) S.1 S.2.1 dl_833 hl (by decide) rfl (fun ls hl => ?_)
  refine lv_aload_n S.1 S.2.1 dl_835 rfl (lv_at hl 3 rfl) ?_
  refine lv_aload_n S.1 S.2.1 dl_836 rfl (lv_at hl 1 rfl) ?_
  refine lv_iload S.1 S.2.1 dl_837 (lv_at hl 5 rfl) ?_
  refine lv_iconst (v := 1) S.1 S.2.1 dl_839 (by decide) ?_
  refine lv_iadd S.1 S.2.1 dl_840 ?_
  refine va_sld S.1 S.2.1 hX hbl hbA hS hi.1 dl_841 ?_
  refine gw_LM S E hS hP hD M cal_Md_word wd_1481 wd_1482 wd_1480 rfl (gw_rm E hP) rfl hl.1 rfl dl_842 ⟨by omega, by omega⟩ (fun H locs hS hP hD => ?_)
  refine lv_lstore (lv' := [(6, .long bm), (5, .int kc), (0, .ref b), (1, .ref o), (2, .ref om), (3, .ref out), (4, .int i)]) S.1 S.2.1 dl_845 hl (by decide) rfl (fun ls hl => ?_)
  refine lv_aload_n S.1 S.2.1 dl_847 rfl (lv_at hl 4 rfl) ?_
  refine gw_XM (X := Unit) S E hS hP hD T cal_Md_thrown wd_1461 wd_1462 wd_1460 rfl ⟨by omega, by omega⟩ (gw_rm E hP) rfl hl.1 rfl dl_848 (fun t1 H locs hS hP hD => ?_)
  refine lv_iload S.1 S.2.1 dl_851 (lv_at hl 1 rfl) ?_
  refine lv_icmp_eq (tgt := 858) S.1 S.2.1 dl_853 (by decide) (fun _ => ?_) (fun h => absurd hk h)
  refine lv_iload S.1 S.2.1 dl_858 (lv_at hl 1 rfl) ?_
  have fin : ∀ (H : Heap) (locs : List Loc), va_S (gx_A0 s) s.heap H locs → va_P D vwC (wCL g o q fq' out oc' v' ++ wMD g om u qb w') H → va_D (gx_A0 s) (wCL g o q fq' out oc' v' ++ wMD g om u qb w') → W p l e room_1 s m #[Value.ref b] below meth c H locs (cells + 1) (slots + 6) Q (F0 m 874 ls []) := by
    intro H locs hS hP hD
    refine lv_goto (tgt := 933) S.1 S.2.1 dl_874 (by decide) ?_
    exact K H locs ls hS hP hD (lv_sub hl [2, 3, 4, 5, 6] rfl)
  refine lv_if_ne (tgt := 874) S.1 S.2.1 dl_860 (by decide) (fun _ => fin H locs hS hP hD) (fun hz => ?_)
  refine lv_aload_n S.1 S.2.1 dl_863 rfl (lv_at hl 5 rfl) ?_
  refine lv_iconst (v := 0) S.1 S.2.1 dl_864 (by decide) ?_
  refine va_lald S.1 S.2.1 E.1.1 hP 0 2 rfl rfl (gx_okv (by decide)) dl_865 ?_
  refine lv_lload S.1 S.2.1 dl_866 (lv_at hl 0 rfl) ?_
  refine W.lcmp S.1 S.2.1 dl_868 ?_
  refine lv_if_eq (tgt := 874) S.1 S.2.1 dl_869 (by decide) (fun _ => fin H locs hS hP hD) (fun h => absurd ((lg_cmp_eq _ _).mpr (ha hz)) h)
set_option maxHeartbeats 4000000 in
set_option maxRecDepth 100000 in
theorem lo_13 {X : Type} {qx : X → Nat} {w' : X → MV} {bm : Int32} (S : CallFix p m c code 8 s #[Value.ref b] gtbl "NumberTextLaw") (E : gx_E s D g s (gx_A0 s)) (hX : va_X b L xs s s.heap) (hbl : b < s.heap.size) (hi : lw_in i L) (hS : va_S (gx_A0 s) s.heap H locs) (hP : va_P D vwC (wCL g o q fq out oc v ++ wMD g om u qb w) H) (hD : va_D (gx_A0 s) (wCL g o q fq out oc v ++ wMD g om u qb w)) (hl : lv_has ls 8 [(0, .ref b), (1, .ref o), (2, .ref om), (3, .ref out), (4, .int i)]) (C : LwH l s D g ({ cls := "NumberTextLaw", name := "count", desc := "(LNumberText;I[J)I" } : MethodName) method_13_code 4 [(0, 9, 12, 19)] fr lo [.ref o, .int (xs (i + (1 : Int32)).toNatClampNeg), .ref out] (wCL g o q fq out oc v) (wCL g o q fq' out oc' v') kc) (hrC : (Nat.ble (fr + 1) room_1.frames && Nat.ble (8 + (4 + 11) + lo) room_1.locals) = true) (M : LwX l s D g y_Md_count b_Md_count 4 1 22 k om [.int (xs (i + (1 : Int32)).toNatClampNeg)] (wMD g om u qb w) (fun t : X => wMD g om u (qx t) (w' t)) bm) (T : ∀ t : X, LwX (X := Unit) l s D g y_Md_thrown b_Md_thrown 1 0 0 0 om [] (wMD g om u (qx t) (w' t)) (fun _ => wMD g om u (qx t) (w' t)) kt) (hk : kt = kc) (ha : kc = 0 → oc' (0 : Int32).toNatClampNeg = bm.toInt64) (hroom : cells + 1 + k ≤ room_1.cells ∧ slots + 6 + 2 * k ≤ room_1.slots) (K : ∀ (t : X) (H1 : Heap) (locs1 : List Loc) (ls1 : Array Slot), va_S (gx_A0 s) s.heap H1 locs1 → va_P D vwC (wCL g o q fq' out oc' v' ++ wMD g om u (qx t) (w' t)) H1 → va_D (gx_A0 s) (wCL g o q fq' out oc' v' ++ wMD g om u (qx t) (w' t)) → lv_has ls1 8 [(0, .ref b), (1, .ref o), (2, .ref om), (3, .ref out), (4, .int i)] → W p l e room_1 s m #[Value.ref b] below meth c H1 locs1 (cells + 1 + k) (slots + 6 + 2 * k) Q (F0 m 933 ls1 [])) : W p l e room_1 s m #[Value.ref b] below meth c H locs cells slots Q (F0 m 877 ls []) := by
  have hbA : ¬ gx_A0 s b := Nat.not_le.mpr hbl
  refine lv_aload_n S.1 S.2.1 dl_877 rfl (lv_at hl 1 rfl) ?_
  refine lv_aload_n S.1 S.2.1 dl_878 rfl (lv_at hl 0 rfl) ?_
  refine lv_iload S.1 S.2.1 dl_879 (lv_at hl 4 rfl) ?_
  refine lv_iconst (v := 1) S.1 S.2.1 dl_881 (by decide) ?_
  refine lv_iadd S.1 S.2.1 dl_882 ?_
  refine va_sld S.1 S.2.1 hX hbl hbA hS hi.1 dl_883 ?_
  refine lv_aload_n S.1 S.2.1 dl_884 rfl (lv_at hl 3 rfl) ?_
  refine gw_H S E hS hP hD C calh_count wd_1275 wd_1274 hrC rfl hl.1 rfl dl_885 ⟨by omega, by omega⟩ (fun H locs hS hP hD => ?_)
  refine lv_istore (lv' := [(5, .int kc), (0, .ref b), (1, .ref o), (2, .ref om), (3, .ref out), (4, .int i)]) S.1 S.2.1 dl_888 hl (by decide) rfl (fun ls hl => ?_)
  refine lv_aload_n S.1 S.2.1 dl_890 rfl (lv_at hl 3 rfl) ?_
  refine lv_aload_n S.1 S.2.1 dl_891 rfl (lv_at hl 1 rfl) ?_
  refine lv_iload S.1 S.2.1 dl_892 (lv_at hl 5 rfl) ?_
  refine lv_iconst (v := 1) S.1 S.2.1 dl_894 (by decide) ?_
  refine lv_iadd S.1 S.2.1 dl_895 ?_
  refine va_sld S.1 S.2.1 hX hbl hbA hS hi.1 dl_896 ?_
  refine gw_XM S E hS hP hD M cal_Md_count wd_1833 wd_1834 wd_1832 rfl ⟨by omega, by omega⟩ (gw_rm E hP) rfl hl.1 rfl dl_897 (fun t H locs hS hP hD => ?_)
  refine lv_istore (lv' := [(6, .int bm), (5, .int kc), (0, .ref b), (1, .ref o), (2, .ref om), (3, .ref out), (4, .int i)]) S.1 S.2.1 dl_900 hl (by decide) rfl (fun ls hl => ?_)
  refine lv_aload_n S.1 S.2.1 dl_902 rfl (lv_at hl 4 rfl) ?_
  refine gw_XM (X := Unit) S E hS hP hD (T t) cal_Md_thrown wd_1461 wd_1462 wd_1460 rfl ⟨by omega, by omega⟩ (gw_rm E hP) rfl hl.1 rfl dl_903 (fun t1 H locs hS hP hD => ?_)
  refine lv_iload S.1 S.2.1 dl_906 (lv_at hl 1 rfl) ?_
  refine lv_icmp_eq (tgt := 913) S.1 S.2.1 dl_908 (by decide) (fun _ => ?_) (fun h => absurd hk h)
  refine lv_iload S.1 S.2.1 dl_913 (lv_at hl 1 rfl) ?_
  have fin : ∀ (H : Heap) (locs : List Loc), va_S (gx_A0 s) s.heap H locs → va_P D vwC (wCL g o q fq' out oc' v' ++ wMD g om u (qx t) (w' t)) H → va_D (gx_A0 s) (wCL g o q fq' out oc' v' ++ wMD g om u (qx t) (w' t)) → W p l e room_1 s m #[Value.ref b] below meth c H locs (cells + 1 + k) (slots + 6 + 2 * k) Q (F0 m 930 ls []) := by
    intro H locs hS hP hD
    refine lv_goto (tgt := 933) S.1 S.2.1 dl_930 (by decide) ?_
    exact K t H locs ls hS hP hD (lv_sub hl [2, 3, 4, 5, 6] rfl)
  refine lv_if_ne (tgt := 930) S.1 S.2.1 dl_915 (by decide) (fun _ => fin H locs hS hP hD) (fun hz => ?_)
  refine lv_aload_n S.1 S.2.1 dl_918 rfl (lv_at hl 5 rfl) ?_
  refine lv_iconst (v := 0) S.1 S.2.1 dl_919 (by decide) ?_
  refine va_lald S.1 S.2.1 E.1.1 hP 0 2 rfl rfl (gx_okv (by decide)) dl_920 ?_
  refine lv_iload S.1 S.2.1 dl_921 (lv_at hl 0 rfl) ?_
  refine lv_i2l S.1 S.2.1 dl_923 rfl ?_
  refine W.lcmp S.1 S.2.1 dl_924 ?_
  refine lv_if_eq (tgt := 930) S.1 S.2.1 dl_925 (by decide) (fun _ => fin H locs hS hP hD) (fun h => absurd ((lg_cmp_eq _ _).mpr (ha hz)) h)
end LWC
