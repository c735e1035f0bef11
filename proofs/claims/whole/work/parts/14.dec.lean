theorem d_Dc_digit_0 : decode b_Dc_digit 0 = .ok (.iload_n 1, 1) := by decide +kernel
theorem d_Dc_digit_1 : decode b_Dc_digit 1 = .ok (.ifCond .lt 20, 3) := by decide +kernel
theorem d_Dc_digit_4 : decode b_Dc_digit 4 = .ok (.iload_n 1, 1) := by decide +kernel
theorem d_Dc_digit_5 : decode b_Dc_digit 5 = .ok (.aload_n 0, 1) := by decide +kernel
theorem d_Dc_digit_6 : decode b_Dc_digit 6 = .ok (.getfield 24, 3) := by decide +kernel
theorem d_Dc_digit_9 : decode b_Dc_digit 9 = .ok (.if_icmp .ge 12, 3) := by decide +kernel
theorem d_Dc_digit_12 : decode b_Dc_digit 12 = .ok (.aload_n 0, 1) := by decide +kernel
theorem d_Dc_digit_13 : decode b_Dc_digit 13 = .ok (.getfield 20, 3) := by decide +kernel
theorem d_Dc_digit_16 : decode b_Dc_digit 16 = .ok (.iload_n 1, 1) := by decide +kernel
theorem d_Dc_digit_17 : decode b_Dc_digit 17 = .ok (.baload, 1) := by decide +kernel
theorem d_Dc_digit_18 : decode b_Dc_digit 18 = .ok (.goto 4, 3) := by decide +kernel
theorem d_Dc_digit_21 : decode b_Dc_digit 21 = .ok (.iconst 0, 1) := by decide +kernel
theorem d_Dc_digit_22 : decode b_Dc_digit 22 = .ok (.ireturn, 1) := by decide +kernel
theorem cal_Dc_digit : gx_cal y_Dc_digit b_Dc_digit 2 (some .int) 1 := ⟨wd_600, wd_10, by decide +kernel⟩
def ww_Dc_digit (g : Nat → ClassId) (o : Nat) (o_digits : Nat) (x_o_number : Value) (x_o_chunks : Value) (x_o_digits : Value) (x_o_size : Int32) (x_o_point : Int32) (y_o_digits : Nat → Int32) : va_W := [(o, .inr (4, [x_o_number, x_o_chunks, x_o_digits, .int x_o_size, .int x_o_point])), (o_digits, .inl (g 1, 792, .inl y_o_digits))]
def f_Dc_digit_21 (o_size : Int32) (o_digits_c : Nat → Int32) : Option (Int32) := some (0 : Int32)
def f_Dc_digit (a1 : Int32) (o_size : Int32) (o_digits_c : Nat → Int32) : Option (Int32) := if a1 < 0 then (f_Dc_digit_21 o_size o_digits_c) else (if o_size ≤ a1 then (f_Dc_digit_21 o_size o_digits_c) else (if gx_ok a1 792 = true then some (o_digits_c a1.toNatClampNeg) else none))
set_option maxHeartbeats 4000000 in
set_option maxRecDepth 100000 in
theorem c_Dc_digit (l : Launch) (z : State) (D : va_G) (g : Nat → ClassId) (o : Nat) (o_digits : Nat) (o_number_v : Value) (o_chunks_v : Value) (o_size : Int32) (o_point : Int32) (o_digits_c : Nat → Int32) (a1 : Int32) (r : Int32) (hf : f_Dc_digit a1 o_size o_digits_c = some r) : gx_Mi l z D g y_Dc_digit b_Dc_digit 2 .int ({ frames := 0, cells := 0, slots := 0, locals := 0 } : Room) [.ref o, .int a1] (ww_Dc_digit g o o_digits o_number_v o_chunks_v (.ref o_digits) o_size o_point o_digits_c) (ww_Dc_digit g o o_digits o_number_v o_chunks_v (.ref o_digits) o_size o_point o_digits_c) r := by
  refine gx_go (by decide +kernel) rfl ?_
  intro p e s m below meth c ls S hr hlk hnm E hP hD hl
  have hS : va_S (va_A (ww_Dc_digit g o o_digits o_number_v o_chunks_v (.ref o_digits) o_size o_point o_digits_c) s.heap.size) s.heap s.heap [] := va_S.rf
  have hl : lv_has ls 2 [(0, .ref o), (1, .int a1)] := hl
  have c_21 : ∀  (ls : Array Slot) (H : Heap) (locs : List Loc), lv_has ls 2 [] → va_S (va_A (ww_Dc_digit g o o_digits o_number_v o_chunks_v (.ref o_digits) o_size o_point o_digits_c) s.heap.size) s.heap H locs → va_P D vwC (ww_Dc_digit g o o_digits o_number_v o_chunks_v (.ref o_digits) o_size o_point o_digits_c) H → va_D (va_A (ww_Dc_digit g o o_digits o_number_v o_chunks_v (.ref o_digits) o_size o_point o_digits_c) s.heap.size) (ww_Dc_digit g o o_digits o_number_v o_chunks_v (.ref o_digits) o_size o_point o_digits_c) → (f_Dc_digit_21 o_size o_digits_c) = some r → W p l e ({ frames := 0, cells := 0, slots := 0, locals := 0 } : Room) s m ([.ref o, .int a1] : List Value).toArray below meth c H locs 0 0 (MQ below (gx_Qi D (ww_Dc_digit g o o_digits o_number_v o_chunks_v (.ref o_digits) o_size o_point o_digits_c) (ww_Dc_digit g o o_digits o_number_v o_chunks_v (.ref o_digits) o_size o_point o_digits_c) r s.heap.size) ([.ref o, .int a1] : List Value).toArray s 0 0 (va_A (ww_Dc_digit g o o_digits o_number_v o_chunks_v (.ref o_digits) o_size o_point o_digits_c) s.heap.size)) (F0 m 21 ls []) := by
    intro  ls H locs hl hS hP hD hf
    have hf : (some (0 : Int32)) = some r := hf
    refine lv_iconst (v := 0) S.1 S.2.1 d_Dc_digit_21 (by decide) ?_
    obtain rfl := Option.some.inj hf
    exact gx_ri S hr hlk hS hP hD d_Dc_digit_22
  have hf : (if a1 < 0 then (f_Dc_digit_21 o_size o_digits_c) else (if o_size ≤ a1 then (f_Dc_digit_21 o_size o_digits_c) else (if gx_ok a1 792 = true then some (o_digits_c a1.toNatClampNeg) else none))) = some r := hf
  refine lv_iload_n S.1 S.2.1 d_Dc_digit_0 rfl (lv_at hl 1 rfl) ?_
  refine lv_if_lt (tgt := 21) S.1 S.2.1 d_Dc_digit_1 (by decide) (fun h => ?_) (fun h => ?_)
  ·
    have hf := gx_ifp h hf
    exact c_21  ls _ _ (lv_sub hl [] rfl) hS hP hD hf
  ·
    have hf := gx_ifn h hf
    refine lv_iload_n S.1 S.2.1 d_Dc_digit_4 rfl (lv_at hl 1 rfl) ?_
    refine lv_aload_n S.1 S.2.1 d_Dc_digit_5 rfl (lv_at hl 0 rfl) ?_
    refine gx_gf (v := .int o_size) S E hP 0 rfl rfl i_Dc 3 rfl wd_211 ⟨rfl, rfl, rfl⟩ rfl d_Dc_digit_6 ?_
    refine lv_icmp_ge (tgt := 21) S.1 S.2.1 d_Dc_digit_9 (by decide) (fun h => ?_) (fun h => ?_)
    ·
      have hf := gx_ifp h hf
      exact c_21  ls _ _ (lv_sub hl [] rfl) hS hP hD hf
    ·
      have hf := gx_ifn h hf
      refine lv_aload_n S.1 S.2.1 d_Dc_digit_12 rfl (lv_at hl 0 rfl) ?_
      refine gx_gf (v := .ref o_digits) S E hP 0 rfl rfl i_Dc 2 rfl wd_210 ⟨rfl, rfl, rfl⟩ rfl d_Dc_digit_13 ?_
      refine lv_iload_n S.1 S.2.1 d_Dc_digit_16 rfl (lv_at hl 1 rfl) ?_
      obtain ⟨hin, hf⟩ := gx_chk hf
      refine va_bald S.1 S.2.1 E.1.1 hP 1 1 rfl rfl (gx_okv hin) d_Dc_digit_17 ?_
      refine lv_goto (tgt := 22) S.1 S.2.1 d_Dc_digit_18 (by decide) ?_
      obtain rfl := Option.some.inj hf
      exact gx_ri S hr hlk hS hP hD d_Dc_digit_22
theorem d_Dc_append_0 : decode b_Dc_append 0 = .ok (.aload_n 0, 1) := by decide +kernel
theorem d_Dc_append_1 : decode b_Dc_append 1 = .ok (.getfield 24, 3) := by decide +kernel
theorem d_Dc_append_4 : decode b_Dc_append 4 = .ok (.ifCond .gt 7, 3) := by decide +kernel
theorem d_Dc_append_7 : decode b_Dc_append 7 = .ok (.iload_n 1, 1) := by decide +kernel
theorem d_Dc_append_8 : decode b_Dc_append 8 = .ok (.ifCond .le 36, 3) := by decide +kernel
theorem d_Dc_append_11 : decode b_Dc_append 11 = .ok (.aload_n 0, 1) := by decide +kernel
theorem d_Dc_append_12 : decode b_Dc_append 12 = .ok (.getfield 24, 3) := by decide +kernel
theorem d_Dc_append_15 : decode b_Dc_append 15 = .ok (.aload_n 0, 1) := by decide +kernel
theorem d_Dc_append_16 : decode b_Dc_append 16 = .ok (.getfield 20, 3) := by decide +kernel
theorem d_Dc_append_19 : decode b_Dc_append 19 = .ok (.arraylength, 1) := by decide +kernel
theorem d_Dc_append_20 : decode b_Dc_append 20 = .ok (.if_icmp .ge 24, 3) := by decide +kernel
theorem d_Dc_append_23 : decode b_Dc_append 23 = .ok (.aload_n 0, 1) := by decide +kernel
theorem d_Dc_append_24 : decode b_Dc_append 24 = .ok (.getfield 20, 3) := by decide +kernel
theorem d_Dc_append_27 : decode b_Dc_append 27 = .ok (.aload_n 0, 1) := by decide +kernel
theorem d_Dc_append_28 : decode b_Dc_append 28 = .ok (.getfield 24, 3) := by decide +kernel
theorem d_Dc_append_31 : decode b_Dc_append 31 = .ok (.iload_n 1, 1) := by decide +kernel
theorem d_Dc_append_32 : decode b_Dc_append 32 = .ok (.i2b, 1) := by decide +kernel
theorem d_Dc_append_33 : decode b_Dc_append 33 = .ok (.bastore, 1) := by decide +kernel
theorem d_Dc_append_34 : decode b_Dc_append 34 = .ok (.aload_n 0, 1) := by decide +kernel
theorem d_Dc_append_35 : decode b_Dc_append 35 = .ok (.dup, 1) := by decide +kernel
theorem d_Dc_append_36 : decode b_Dc_append 36 = .ok (.getfield 24, 3) := by decide +kernel
theorem d_Dc_append_39 : decode b_Dc_append 39 = .ok (.iconst 1, 1) := by decide +kernel
theorem d_Dc_append_40 : decode b_Dc_append 40 = .ok (.iadd, 1) := by decide +kernel
theorem d_Dc_append_41 : decode b_Dc_append 41 = .ok (.putfield 24, 3) := by decide +kernel
theorem d_Dc_append_44 : decode b_Dc_append 44 = .ok (.return_, 1) := by decide +kernel
theorem cal_Dc_append : gx_cal y_Dc_append b_Dc_append 2 none 1 := ⟨wd_581, wd_10, by decide +kernel⟩
def ww_Dc_append (g : Nat → ClassId) (o : Nat) (o_digits : Nat) (x_o_number : Value) (x_o_chunks : Value) (x_o_digits : Value) (x_o_size : Int32) (x_o_point : Int32) (y_o_digits : Nat → Int32) : va_W := [(o, .inr (4, [x_o_number, x_o_chunks, x_o_digits, .int x_o_size, .int x_o_point])), (o_digits, .inl (g 1, 792, .inl y_o_digits))]
def f_Dc_append_11 (v1 : Int32) (o_sizeq : Int32) (o_digits_cq : Nat → Int32) : Option (Int32 × (Nat → Int32)) := if (Int32.ofNat 792) ≤ o_sizeq then (some (o_sizeq, o_digits_cq)) else (if gx_ok o_sizeq 792 = true then some (o_sizeq + (1 : Int32), upd o_digits_cq o_sizeq.toNatClampNeg (vp_nar .byte v1.toInt8.toInt32)) else none)
def f_Dc_append (a1 : Int32) (o_size : Int32) (o_digits_c : Nat → Int32) : Option (Int32 × (Nat → Int32)) := if 0 < o_size then (f_Dc_append_11 a1 o_size o_digits_c) else (if a1 ≤ 0 then (some (o_size, o_digits_c)) else (f_Dc_append_11 a1 o_size o_digits_c))
set_option maxHeartbeats 4000000 in
set_option maxRecDepth 100000 in
theorem c_Dc_append (l : Launch) (z : State) (D : va_G) (g : Nat → ClassId) (o : Nat) (o_digits : Nat) (o_number_v : Value) (o_chunks_v : Value) (o_size : Int32) (o_point : Int32) (o_digits_c : Nat → Int32) (a1 : Int32) (r : Int32 × (Nat → Int32)) (hf : f_Dc_append a1 o_size o_digits_c = some r) : gx_Mv l z D g y_Dc_append b_Dc_append 2 ({ frames := 0, cells := 0, slots := 0, locals := 0 } : Room) [.ref o, .int a1] (ww_Dc_append g o o_digits o_number_v o_chunks_v (.ref o_digits) o_size o_point o_digits_c) (ww_Dc_append g o o_digits o_number_v o_chunks_v (.ref o_digits) r.1 o_point r.2) := by
  refine gx_go (by decide +kernel) rfl ?_
  intro p e s m below meth c ls S hr hlk hnm E hP hD hl
  have hS : va_S (va_A (ww_Dc_append g o o_digits o_number_v o_chunks_v (.ref o_digits) o_size o_point o_digits_c) s.heap.size) s.heap s.heap [] := va_S.rf
  have hl : lv_has ls 2 [(0, .ref o), (1, .int a1)] := hl
  have c_11 : ∀ (v1 : Int32) (o_sizeq : Int32) (o_digits_cq : Nat → Int32) (ls : Array Slot) (H : Heap) (locs : List Loc), lv_has ls 2 [(0, .ref o), (1, .int v1)] → va_S (va_A (ww_Dc_append g o o_digits o_number_v o_chunks_v (.ref o_digits) o_size o_point o_digits_c) s.heap.size) s.heap H locs → va_P D vwC (ww_Dc_append g o o_digits o_number_v o_chunks_v (.ref o_digits) o_sizeq o_point o_digits_cq) H → va_D (va_A (ww_Dc_append g o o_digits o_number_v o_chunks_v (.ref o_digits) o_size o_point o_digits_c) s.heap.size) (ww_Dc_append g o o_digits o_number_v o_chunks_v (.ref o_digits) o_sizeq o_point o_digits_cq) → (f_Dc_append_11 v1 o_sizeq o_digits_cq) = some r → W p l e ({ frames := 0, cells := 0, slots := 0, locals := 0 } : Room) s m ([.ref o, .int a1] : List Value).toArray below meth c H locs 0 0 (MQ below (gx_Qv D (ww_Dc_append g o o_digits o_number_v o_chunks_v (.ref o_digits) o_size o_point o_digits_c) (ww_Dc_append g o o_digits o_number_v o_chunks_v (.ref o_digits) r.1 o_point r.2) s.heap.size) ([.ref o, .int a1] : List Value).toArray s 0 0 (va_A (ww_Dc_append g o o_digits o_number_v o_chunks_v (.ref o_digits) o_size o_point o_digits_c) s.heap.size)) (F0 m 11 ls []) := by
    intro v1 o_sizeq o_digits_cq ls H locs hl hS hP hD hf
    have hf : (if (Int32.ofNat 792) ≤ o_sizeq then (some (o_sizeq, o_digits_cq)) else (if gx_ok o_sizeq 792 = true then some (o_sizeq + (1 : Int32), upd o_digits_cq o_sizeq.toNatClampNeg (vp_nar .byte v1.toInt8.toInt32)) else none)) = some r := hf
    refine lv_aload_n S.1 S.2.1 d_Dc_append_11 rfl (lv_at hl 0 rfl) ?_
    refine gx_gf (v := .int o_sizeq) S E hP 0 rfl rfl i_Dc 3 rfl wd_211 ⟨rfl, rfl, rfl⟩ rfl d_Dc_append_12 ?_
    refine lv_aload_n S.1 S.2.1 d_Dc_append_15 rfl (lv_at hl 0 rfl) ?_
    refine gx_gf (v := .ref o_digits) S E hP 0 rfl rfl i_Dc 2 rfl wd_210 ⟨rfl, rfl, rfl⟩ rfl d_Dc_append_16 ?_
    refine va_alen S.1 S.2.1 E.1.1 hP 1 1 rfl rfl rfl d_Dc_append_19 ?_
    refine lv_icmp_ge (tgt := 44) S.1 S.2.1 d_Dc_append_20 (by decide) (fun h => ?_) (fun h => ?_)
    ·
      have hf := gx_ifp h hf
      obtain rfl := Option.some.inj hf
      exact gx_rv S hr hlk hS hP hD d_Dc_append_44
    ·
      have hf := gx_ifn h hf
      refine lv_aload_n S.1 S.2.1 d_Dc_append_23 rfl (lv_at hl 0 rfl) ?_
      refine gx_gf (v := .ref o_digits) S E hP 0 rfl rfl i_Dc 2 rfl wd_210 ⟨rfl, rfl, rfl⟩ rfl d_Dc_append_24 ?_
      refine lv_aload_n S.1 S.2.1 d_Dc_append_27 rfl (lv_at hl 0 rfl) ?_
      refine gx_gf (v := .int o_sizeq) S E hP 0 rfl rfl i_Dc 3 rfl wd_211 ⟨rfl, rfl, rfl⟩ rfl d_Dc_append_28 ?_
      refine lv_iload_n S.1 S.2.1 d_Dc_append_31 rfl (lv_at hl 1 rfl) ?_
      refine lv_i2b S.1 S.2.1 d_Dc_append_32 rfl ?_
      obtain ⟨hin, hf⟩ := gx_chk hf
      refine gx_bast (ws2 := (ww_Dc_append g o o_digits o_number_v o_chunks_v (.ref o_digits) o_sizeq o_point (upd o_digits_cq o_sizeq.toNatClampNeg (vp_nar .byte v1.toInt8.toInt32)))) S E hS hP hD 1 1 rfl rfl hin d_Dc_append_33 rfl (fun H locs hS hP hD => ?_)
      refine lv_aload_n S.1 S.2.1 d_Dc_append_34 rfl (lv_at hl 0 rfl) ?_
      refine lv_dup S.1 S.2.1 d_Dc_append_35 rfl ?_
      refine gx_gf (v := .int o_sizeq) S E hP 0 rfl rfl i_Dc 3 rfl wd_211 ⟨rfl, rfl, rfl⟩ rfl d_Dc_append_36 ?_
      refine lv_iconst (v := 1) S.1 S.2.1 d_Dc_append_39 (by decide) ?_
      refine lv_iadd S.1 S.2.1 d_Dc_append_40 ?_
      refine gx_pf (v := .int (o_sizeq + (1 : Int32))) (ws2 := (ww_Dc_append g o o_digits o_number_v o_chunks_v (.ref o_digits) (o_sizeq + (1 : Int32)) o_point (upd o_digits_cq o_sizeq.toNatClampNeg (vp_nar .byte v1.toInt8.toInt32)))) S E hS hP hD 0 rfl rfl i_Dc k_Dc n_Dc 3 rfl wd_211 ⟨rfl, rfl, rfl, rfl⟩ rfl rfl rfl d_Dc_append_41 rfl (fun H locs hS hP hD => ?_)
      obtain rfl := Option.some.inj hf
      exact gx_rv S hr hlk hS hP hD d_Dc_append_44
  have hf : (if 0 < o_size then (f_Dc_append_11 a1 o_size o_digits_c) else (if a1 ≤ 0 then (some (o_size, o_digits_c)) else (f_Dc_append_11 a1 o_size o_digits_c))) = some r := hf
  refine lv_aload_n S.1 S.2.1 d_Dc_append_0 rfl (lv_at hl 0 rfl) ?_
  refine gx_gf (v := .int o_size) S E hP 0 rfl rfl i_Dc 3 rfl wd_211 ⟨rfl, rfl, rfl⟩ rfl d_Dc_append_1 ?_
  refine lv_if_gt (tgt := 11) S.1 S.2.1 d_Dc_append_4 (by decide) (fun h => ?_) (fun h => ?_)
  ·
    have hf := gx_ifp h hf
    exact c_11 a1 o_size o_digits_c ls _ _ (lv_sub hl [0, 1] rfl) hS hP hD hf
  ·
    have hf := gx_ifn h hf
    refine lv_iload_n S.1 S.2.1 d_Dc_append_7 rfl (lv_at hl 1 rfl) ?_
    refine lv_if_le (tgt := 44) S.1 S.2.1 d_Dc_append_8 (by decide) (fun h => ?_) (fun h => ?_)
    ·
      have hf := gx_ifp h hf
      obtain rfl := Option.some.inj hf
      exact gx_rv S hr hlk hS hP hD d_Dc_append_44
    ·
      have hf := gx_ifn h hf
      exact c_11 a1 o_size o_digits_c ls _ _ (lv_sub hl [0, 1] rfl) hS hP hD hf
theorem d_Dc_takeWhole_0 : decode b_Dc_takeWhole 0 = .ok (.lload_n 1, 1) := by decide +kernel
theorem d_Dc_takeWhole_1 : decode b_Dc_takeWhole 1 = .ok (.lconst 0, 1) := by decide +kernel
theorem d_Dc_takeWhole_2 : decode b_Dc_takeWhole 2 = .ok (.lcmp, 1) := by decide +kernel
theorem d_Dc_takeWhole_3 : decode b_Dc_takeWhole 3 = .ok (.ifCond .ge 7, 3) := by decide +kernel
theorem d_Dc_takeWhole_6 : decode b_Dc_takeWhole 6 = .ok (.lload_n 1, 1) := by decide +kernel
theorem d_Dc_takeWhole_7 : decode b_Dc_takeWhole 7 = .ok (.goto 5, 3) := by decide +kernel
theorem d_Dc_takeWhole_10 : decode b_Dc_takeWhole 10 = .ok (.lload_n 1, 1) := by decide +kernel
theorem d_Dc_takeWhole_11 : decode b_Dc_takeWhole 11 = .ok (.lneg, 1) := by decide +kernel
theorem d_Dc_takeWhole_12 : decode b_Dc_takeWhole 12 = .ok (.lstore_n 3, 1) := by decide +kernel
theorem d_Dc_takeWhole_13 : decode b_Dc_takeWhole 13 = .ok (.aload_n 0, 1) := by decide +kernel
theorem d_Dc_takeWhole_14 : decode b_Dc_takeWhole 14 = .ok (.iconst 0, 1) := by decide +kernel
theorem d_Dc_takeWhole_15 : decode b_Dc_takeWhole 15 = .ok (.putfield 24, 3) := by decide +kernel
theorem d_Dc_takeWhole_18 : decode b_Dc_takeWhole 18 = .ok (.ldc2_w 31, 3) := by decide +kernel
theorem d_Dc_takeWhole_21 : decode b_Dc_takeWhole 21 = .ok (.lstore 5, 2) := by decide +kernel
theorem d_Dc_takeWhole_23 : decode b_Dc_takeWhole 23 = .ok (.lload 5, 2) := by decide +kernel
theorem d_Dc_takeWhole_25 : decode b_Dc_takeWhole 25 = .ok (.lconst 0, 1) := by decide +kernel
theorem d_Dc_takeWhole_26 : decode b_Dc_takeWhole 26 = .ok (.lcmp, 1) := by decide +kernel
theorem d_Dc_takeWhole_27 : decode b_Dc_takeWhole 27 = .ok (.ifCond .le 29, 3) := by decide +kernel
theorem d_Dc_takeWhole_30 : decode b_Dc_takeWhole 30 = .ok (.aload_n 0, 1) := by decide +kernel
theorem d_Dc_takeWhole_31 : decode b_Dc_takeWhole 31 = .ok (.lload_n 3, 1) := by decide +kernel
theorem d_Dc_takeWhole_32 : decode b_Dc_takeWhole 32 = .ok (.lload 5, 2) := by decide +kernel
theorem d_Dc_takeWhole_34 : decode b_Dc_takeWhole 34 = .ok (.ldiv, 1) := by decide +kernel
theorem d_Dc_takeWhole_35 : decode b_Dc_takeWhole 35 = .ok (.lneg, 1) := by decide +kernel
theorem d_Dc_takeWhole_36 : decode b_Dc_takeWhole 36 = .ok (.l2i, 1) := by decide +kernel
theorem d_Dc_takeWhole_37 : decode b_Dc_takeWhole 37 = .ok (.invokevirtual 33, 3) := by decide +kernel
theorem d_Dc_takeWhole_40 : decode b_Dc_takeWhole 40 = .ok (.lload_n 3, 1) := by decide +kernel
theorem d_Dc_takeWhole_41 : decode b_Dc_takeWhole 41 = .ok (.lload 5, 2) := by decide +kernel
theorem d_Dc_takeWhole_43 : decode b_Dc_takeWhole 43 = .ok (.lrem, 1) := by decide +kernel
theorem d_Dc_takeWhole_44 : decode b_Dc_takeWhole 44 = .ok (.lstore_n 3, 1) := by decide +kernel
theorem d_Dc_takeWhole_45 : decode b_Dc_takeWhole 45 = .ok (.lload 5, 2) := by decide +kernel
theorem d_Dc_takeWhole_47 : decode b_Dc_takeWhole 47 = .ok (.ldc2_w 37, 3) := by decide +kernel
theorem d_Dc_takeWhole_50 : decode b_Dc_takeWhole 50 = .ok (.ldiv, 1) := by decide +kernel
theorem d_Dc_takeWhole_51 : decode b_Dc_takeWhole 51 = .ok (.lstore 5, 2) := by decide +kernel
theorem d_Dc_takeWhole_53 : decode b_Dc_takeWhole 53 = .ok (.goto (-30), 3) := by decide +kernel
theorem d_Dc_takeWhole_56 : decode b_Dc_takeWhole 56 = .ok (.aload_n 0, 1) := by decide +kernel
theorem d_Dc_takeWhole_57 : decode b_Dc_takeWhole 57 = .ok (.aload_n 0, 1) := by decide +kernel
theorem d_Dc_takeWhole_58 : decode b_Dc_takeWhole 58 = .ok (.getfield 24, 3) := by decide +kernel
theorem d_Dc_takeWhole_61 : decode b_Dc_takeWhole 61 = .ok (.ifCond .ne 7, 3) := by decide +kernel
theorem d_Dc_takeWhole_64 : decode b_Dc_takeWhole 64 = .ok (.iconst 1, 1) := by decide +kernel
theorem d_Dc_takeWhole_65 : decode b_Dc_takeWhole 65 = .ok (.goto 7, 3) := by decide +kernel
theorem d_Dc_takeWhole_68 : decode b_Dc_takeWhole 68 = .ok (.aload_n 0, 1) := by decide +kernel
theorem d_Dc_takeWhole_69 : decode b_Dc_takeWhole 69 = .ok (.getfield 24, 3) := by decide +kernel
theorem d_Dc_takeWhole_72 : decode b_Dc_takeWhole 72 = .ok (.putfield 28, 3) := by decide +kernel
theorem d_Dc_takeWhole_75 : decode b_Dc_takeWhole 75 = .ok (.return_, 1) := by decide +kernel
theorem cal_Dc_takeWhole : gx_cal y_Dc_takeWhole b_Dc_takeWhole 7 none 1 := ⟨wd_576, wd_10, by decide +kernel⟩
def ww_Dc_takeWhole (g : Nat → ClassId) (o : Nat) (o_digits : Nat) (x_o_number : Value) (x_o_chunks : Value) (x_o_digits : Value) (x_o_size : Int32) (x_o_point : Int32) (y_o_digits : Nat → Int32) : va_W := [(o, .inr (4, [x_o_number, x_o_chunks, x_o_digits, .int x_o_size, .int x_o_point])), (o_digits, .inl (g 1, 792, .inl y_o_digits))]
def f_Dc_takeWhole_23 : Nat → Int64 → Int64 → Int32 → Int32 → (Nat → Int32) → Option (Int32 × Int32 × (Nat → Int32))
  | 0, _, _, _, _, _ => none
  | n + 1, v3, v5, o_sizeq, o_pointq, o_digits_cq => if v5 ≤ (0 : Int64) then (if o_sizeq = 0 then (some (o_sizeq, (1 : Int32), o_digits_cq)) else (some (o_sizeq, o_sizeq, o_digits_cq))) else (if ¬ v5 = 0 then (f_Dc_append ((-(v3 / v5)).toInt32) o_sizeq o_digits_cq).bind fun u37 => if ¬ v5 = 0 then f_Dc_takeWhole_23 n (v3 - v3 / v5 * v5) (v5 / (10 : Int64)) u37.1 o_pointq u37.2 else none else none)
def f_Dc_takeWhole_12 (t0 : Int64) (o_sizeq : Int32) (o_pointq : Int32) (o_digits_cq : Nat → Int32) : Option (Int32 × Int32 × (Nat → Int32)) := f_Dc_takeWhole_23 gx_fu t0 (1000000000000000000 : Int64) (0 : Int32) o_pointq o_digits_cq
def f_Dc_takeWhole (a1 : Int64) (o_size : Int32) (o_point : Int32) (o_digits_c : Nat → Int32) : Option (Int32 × Int32 × (Nat → Int32)) := if (0 : Int64) ≤ a1 then (f_Dc_takeWhole_12 (-a1) o_size o_point o_digits_c) else (f_Dc_takeWhole_12 a1 o_size o_point o_digits_c)
set_option maxHeartbeats 4000000 in
set_option maxRecDepth 100000 in
theorem c_Dc_takeWhole (l : Launch) (z : State) (D : va_G) (g : Nat → ClassId) (o : Nat) (o_digits : Nat) (o_number_v : Value) (o_chunks_v : Value) (o_size : Int32) (o_point : Int32) (o_digits_c : Nat → Int32) (a1 : Int64) (r : Int32 × Int32 × (Nat → Int32)) (hf : f_Dc_takeWhole a1 o_size o_point o_digits_c = some r) : gx_Mv l z D g y_Dc_takeWhole b_Dc_takeWhole 7 ({ frames := 1, cells := 0, slots := 0, locals := 21 } : Room) [.ref o, .long a1] (ww_Dc_takeWhole g o o_digits o_number_v o_chunks_v (.ref o_digits) o_size o_point o_digits_c) (ww_Dc_takeWhole g o o_digits o_number_v o_chunks_v (.ref o_digits) r.1 r.2.1 r.2.2) := by
  refine gx_go (by decide +kernel) rfl ?_
  intro p e s m below meth c ls S hr hlk hnm E hP hD hl
  have hS : va_S (va_A (ww_Dc_takeWhole g o o_digits o_number_v o_chunks_v (.ref o_digits) o_size o_point o_digits_c) s.heap.size) s.heap s.heap [] := va_S.rf
  have hl : lv_has ls 7 [(0, .ref o), (1, .long a1)] := hl
  have c_23 : ∀ n : Nat, ∀ (v3 : Int64) (v5 : Int64) (o_sizeq : Int32) (o_pointq : Int32) (o_digits_cq : Nat → Int32) (ls : Array Slot) (H : Heap) (locs : List Loc), lv_has ls 7 [(0, .ref o), (3, .long v3), (5, .long v5)] → va_S (va_A (ww_Dc_takeWhole g o o_digits o_number_v o_chunks_v (.ref o_digits) o_size o_point o_digits_c) s.heap.size) s.heap H locs → va_P D vwC (ww_Dc_takeWhole g o o_digits o_number_v o_chunks_v (.ref o_digits) o_sizeq o_pointq o_digits_cq) H → va_D (va_A (ww_Dc_takeWhole g o o_digits o_number_v o_chunks_v (.ref o_digits) o_size o_point o_digits_c) s.heap.size) (ww_Dc_takeWhole g o o_digits o_number_v o_chunks_v (.ref o_digits) o_sizeq o_pointq o_digits_cq) → (f_Dc_takeWhole_23 n v3 v5 o_sizeq o_pointq o_digits_cq) = some r → W p l e ({ frames := 1, cells := 0, slots := 0, locals := 21 } : Room) s m ([.ref o, .long a1] : List Value).toArray below meth c H locs 0 0 (MQ below (gx_Qv D (ww_Dc_takeWhole g o o_digits o_number_v o_chunks_v (.ref o_digits) o_size o_point o_digits_c) (ww_Dc_takeWhole g o o_digits o_number_v o_chunks_v (.ref o_digits) r.1 r.2.1 r.2.2) s.heap.size) ([.ref o, .long a1] : List Value).toArray s 0 0 (va_A (ww_Dc_takeWhole g o o_digits o_number_v o_chunks_v (.ref o_digits) o_size o_point o_digits_c) s.heap.size)) (F0 m 23 ls []) := by
    intro n
    induction n with
    | zero => intro v3 v5 o_sizeq o_pointq o_digits_cq ls H locs hl hS hP hD hf; cases hf
    | succ n ih =>
      intro v3 v5 o_sizeq o_pointq o_digits_cq ls H locs hl hS hP hD hf
      have hf : (if v5 ≤ (0 : Int64) then (if o_sizeq = 0 then (some (o_sizeq, (1 : Int32), o_digits_cq)) else (some (o_sizeq, o_sizeq, o_digits_cq))) else (if ¬ v5 = 0 then (f_Dc_append ((-(v3 / v5)).toInt32) o_sizeq o_digits_cq).bind fun u37 => if ¬ v5 = 0 then f_Dc_takeWhole_23 n (v3 - v3 / v5 * v5) (v5 / (10 : Int64)) u37.1 o_pointq u37.2 else none else none)) = some r := hf
      refine lv_lload S.1 S.2.1 d_Dc_takeWhole_23 (lv_at hl 2 rfl) ?_
      refine lv_lconst (v := 0) S.1 S.2.1 d_Dc_takeWhole_25 (by decide) ?_
      refine W.lcmp S.1 S.2.1 d_Dc_takeWhole_26 ?_
      refine lv_if_le (tgt := 56) S.1 S.2.1 d_Dc_takeWhole_27 (by decide) (fun h => ?_) (fun h => ?_)
      ·
        have h : v5 ≤ (0 : Int64) := (lg_cmp_le _ _).mp h
        have hf := gx_ifp h hf
        refine lv_aload_n S.1 S.2.1 d_Dc_takeWhole_56 rfl (lv_at hl 0 rfl) ?_
        refine lv_aload_n S.1 S.2.1 d_Dc_takeWhole_57 rfl (lv_at hl 0 rfl) ?_
        refine gx_gf (v := .int o_sizeq) S E hP 0 rfl rfl i_Dc 3 rfl wd_211 ⟨rfl, rfl, rfl⟩ rfl d_Dc_takeWhole_58 ?_
        refine lv_if_ne (tgt := 68) S.1 S.2.1 d_Dc_takeWhole_61 (by decide) (fun h => ?_) (fun h => ?_)
        ·
          have hf := gx_ifn h hf
          refine lv_aload_n S.1 S.2.1 d_Dc_takeWhole_68 rfl (lv_at hl 0 rfl) ?_
          refine gx_gf (v := .int o_sizeq) S E hP 0 rfl rfl i_Dc 3 rfl wd_211 ⟨rfl, rfl, rfl⟩ rfl d_Dc_takeWhole_69 ?_
          refine gx_pf (v := .int o_sizeq) (ws2 := (ww_Dc_takeWhole g o o_digits o_number_v o_chunks_v (.ref o_digits) o_sizeq o_sizeq o_digits_cq)) S E hS hP hD 0 rfl rfl i_Dc k_Dc n_Dc 4 rfl wd_213 ⟨rfl, rfl, rfl, rfl⟩ rfl rfl rfl d_Dc_takeWhole_72 rfl (fun H locs hS hP hD => ?_)
          obtain rfl := Option.some.inj hf
          exact gx_rv S hr hlk hS hP hD d_Dc_takeWhole_75
        ·
          have hf := gx_ifp h hf
          refine lv_iconst (v := 1) S.1 S.2.1 d_Dc_takeWhole_64 (by decide) ?_
          refine lv_goto (tgt := 72) S.1 S.2.1 d_Dc_takeWhole_65 (by decide) ?_
          refine gx_pf (v := .int (1 : Int32)) (ws2 := (ww_Dc_takeWhole g o o_digits o_number_v o_chunks_v (.ref o_digits) o_sizeq (1 : Int32) o_digits_cq)) S E hS hP hD 0 rfl rfl i_Dc k_Dc n_Dc 4 rfl wd_213 ⟨rfl, rfl, rfl, rfl⟩ rfl rfl rfl d_Dc_takeWhole_72 rfl (fun H locs hS hP hD => ?_)
          obtain rfl := Option.some.inj hf
          exact gx_rv S hr hlk hS hP hD d_Dc_takeWhole_75
      ·
        have h : ¬ v5 ≤ (0 : Int64) := fun q => h ((lg_cmp_le _ _).mpr q)
        have hf := gx_ifn h hf
        refine lv_aload_n S.1 S.2.1 d_Dc_takeWhole_30 rfl (lv_at hl 0 rfl) ?_
        refine lv_lload_n S.1 S.2.1 d_Dc_takeWhole_31 rfl (lv_at hl 1 rfl) ?_
        refine lv_lload S.1 S.2.1 d_Dc_takeWhole_32 (lv_at hl 2 rfl) ?_
        obtain ⟨hne, hf⟩ := gx_chk hf
        refine lv_ldiv S.1 S.2.1 d_Dc_takeWhole_34 hne ?_
        refine lv_lneg S.1 S.2.1 d_Dc_takeWhole_35 ?_
        refine lv_l2i S.1 S.2.1 d_Dc_takeWhole_36 rfl ?_
        obtain ⟨u37, hc37, hf⟩ := gx_bnd hf
        refine gx_Vv (ws2 := (ww_Dc_takeWhole g o o_digits o_number_v o_chunks_v (.ref o_digits) u37.1 o_pointq u37.2)) S E hS hP hD (c_Dc_append l z D g o o_digits o_number_v o_chunks_v o_sizeq o_pointq o_digits_cq ((-(v3 / v5)).toInt32) u37 hc37) cal_Dc_append wd_580 ws_5 wd_578 rfl [0, 1] rfl rfl rfl (gx_rc E hP 0 rfl rfl) rfl hl.1 rfl d_Dc_takeWhole_37 ⟨Nat.zero_le _, Nat.zero_le _⟩ rfl (fun H locs hS hP hD => ?_)
        refine lv_lload_n S.1 S.2.1 d_Dc_takeWhole_40 rfl (lv_at hl 1 rfl) ?_
        refine lv_lload S.1 S.2.1 d_Dc_takeWhole_41 (lv_at hl 2 rfl) ?_
        obtain ⟨hne, hf⟩ := gx_chk hf
        refine lv_lrem S.1 S.2.1 d_Dc_takeWhole_43 hne ?_
        refine lv_lstore_n (lv' := [(3, .long (v3 - v3 / v5 * v5)), (0, .ref o), (5, .long v5)]) S.1 S.2.1 d_Dc_takeWhole_44 rfl hl (by decide) rfl (fun ls hl => ?_)
        refine lv_lload S.1 S.2.1 d_Dc_takeWhole_45 (lv_at hl 2 rfl) ?_
        refine lv_ldc2 (v := 10) S.1 S.2.1 S.2.2.2.1 (S.2.2.2.2 _ wd_582) d_Dc_takeWhole_47 ?_
        refine lv_ldiv S.1 S.2.1 d_Dc_takeWhole_50 (by decide) ?_
        refine lv_lstore (lv' := [(5, .long (v5 / (10 : Int64))), (3, .long (v3 - v3 / v5 * v5)), (0, .ref o)]) S.1 S.2.1 d_Dc_takeWhole_51 hl (by decide) rfl (fun ls hl => ?_)
        refine lv_goto (tgt := 23) S.1 S.2.1 d_Dc_takeWhole_53 (by decide) ?_
        exact ih (v3 - v3 / v5 * v5) (v5 / (10 : Int64)) u37.1 o_pointq u37.2 ls _ _ (lv_sub hl [2, 1, 0] rfl) hS hP hD hf
  have c_12 : ∀ (t0 : Int64) (o_sizeq : Int32) (o_pointq : Int32) (o_digits_cq : Nat → Int32) (ls : Array Slot) (H : Heap) (locs : List Loc), lv_has ls 7 [(0, .ref o)] → va_S (va_A (ww_Dc_takeWhole g o o_digits o_number_v o_chunks_v (.ref o_digits) o_size o_point o_digits_c) s.heap.size) s.heap H locs → va_P D vwC (ww_Dc_takeWhole g o o_digits o_number_v o_chunks_v (.ref o_digits) o_sizeq o_pointq o_digits_cq) H → va_D (va_A (ww_Dc_takeWhole g o o_digits o_number_v o_chunks_v (.ref o_digits) o_size o_point o_digits_c) s.heap.size) (ww_Dc_takeWhole g o o_digits o_number_v o_chunks_v (.ref o_digits) o_sizeq o_pointq o_digits_cq) → (f_Dc_takeWhole_12 t0 o_sizeq o_pointq o_digits_cq) = some r → W p l e ({ frames := 1, cells := 0, slots := 0, locals := 21 } : Room) s m ([.ref o, .long a1] : List Value).toArray below meth c H locs 0 0 (MQ below (gx_Qv D (ww_Dc_takeWhole g o o_digits o_number_v o_chunks_v (.ref o_digits) o_size o_point o_digits_c) (ww_Dc_takeWhole g o o_digits o_number_v o_chunks_v (.ref o_digits) r.1 r.2.1 r.2.2) s.heap.size) ([.ref o, .long a1] : List Value).toArray s 0 0 (va_A (ww_Dc_takeWhole g o o_digits o_number_v o_chunks_v (.ref o_digits) o_size o_point o_digits_c) s.heap.size)) (F0 m 12 ls [.long t0]) := by
    intro t0 o_sizeq o_pointq o_digits_cq ls H locs hl hS hP hD hf
    have hf : (f_Dc_takeWhole_23 gx_fu t0 (1000000000000000000 : Int64) (0 : Int32) o_pointq o_digits_cq) = some r := hf
    refine lv_lstore_n (lv' := [(3, .long t0), (0, .ref o)]) S.1 S.2.1 d_Dc_takeWhole_12 rfl hl (by decide) rfl (fun ls hl => ?_)
    refine lv_aload_n S.1 S.2.1 d_Dc_takeWhole_13 rfl (lv_at hl 1 rfl) ?_
    refine lv_iconst (v := 0) S.1 S.2.1 d_Dc_takeWhole_14 (by decide) ?_
    refine gx_pf (v := .int (0 : Int32)) (ws2 := (ww_Dc_takeWhole g o o_digits o_number_v o_chunks_v (.ref o_digits) (0 : Int32) o_pointq o_digits_cq)) S E hS hP hD 0 rfl rfl i_Dc k_Dc n_Dc 3 rfl wd_211 ⟨rfl, rfl, rfl, rfl⟩ rfl rfl rfl d_Dc_takeWhole_15 rfl (fun H locs hS hP hD => ?_)
    refine lv_ldc2 (v := 1000000000000000000) S.1 S.2.1 S.2.2.2.1 (S.2.2.2.2 _ wd_577) d_Dc_takeWhole_18 ?_
    refine lv_lstore (lv' := [(5, .long (1000000000000000000 : Int64)), (3, .long t0), (0, .ref o)]) S.1 S.2.1 d_Dc_takeWhole_21 hl (by decide) rfl (fun ls hl => ?_)
    exact c_23 gx_fu t0 (1000000000000000000 : Int64) (0 : Int32) o_pointq o_digits_cq ls _ _ (lv_sub hl [2, 1, 0] rfl) hS hP hD hf
  have hf : (if (0 : Int64) ≤ a1 then (f_Dc_takeWhole_12 (-a1) o_size o_point o_digits_c) else (f_Dc_takeWhole_12 a1 o_size o_point o_digits_c)) = some r := hf
  refine lv_lload_n S.1 S.2.1 d_Dc_takeWhole_0 rfl (lv_at hl 1 rfl) ?_
  refine lv_lconst (v := 0) S.1 S.2.1 d_Dc_takeWhole_1 (by decide) ?_
  refine W.lcmp S.1 S.2.1 d_Dc_takeWhole_2 ?_
  refine lv_if_ge (tgt := 10) S.1 S.2.1 d_Dc_takeWhole_3 (by decide) (fun h => ?_) (fun h => ?_)
  ·
    have h : (0 : Int64) ≤ a1 := (lg_cmp_ge _ _).mp h
    have hf := gx_ifp h hf
    refine lv_lload_n S.1 S.2.1 d_Dc_takeWhole_10 rfl (lv_at hl 1 rfl) ?_
    refine lv_lneg S.1 S.2.1 d_Dc_takeWhole_11 ?_
    exact c_12 (-a1) o_size o_point o_digits_c ls _ _ (lv_sub hl [0] rfl) hS hP hD hf
  ·
    have h : ¬ (0 : Int64) ≤ a1 := fun q => h ((lg_cmp_ge _ _).mpr q)
    have hf := gx_ifn h hf
    refine lv_lload_n S.1 S.2.1 d_Dc_takeWhole_6 rfl (lv_at hl 1 rfl) ?_
    refine lv_goto (tgt := 12) S.1 S.2.1 d_Dc_takeWhole_7 (by decide) ?_
    exact c_12 a1 o_size o_point o_digits_c ls _ _ (lv_sub hl [0] rfl) hS hP hD hf
theorem d_Dc_takeNumber_0 : decode b_Dc_takeNumber 0 = .ok (.iconst 0, 1) := by decide +kernel
theorem d_Dc_takeNumber_1 : decode b_Dc_takeNumber 1 = .ok (.istore_n 1, 1) := by decide +kernel
theorem d_Dc_takeNumber_2 : decode b_Dc_takeNumber 2 = .ok (.iload_n 1, 1) := by decide +kernel
theorem d_Dc_takeNumber_3 : decode b_Dc_takeNumber 3 = .ok (.bipush 88, 2) := by decide +kernel
theorem d_Dc_takeNumber_5 : decode b_Dc_takeNumber 5 = .ok (.if_icmp .ge 32, 3) := by decide +kernel
theorem d_Dc_takeNumber_8 : decode b_Dc_takeNumber 8 = .ok (.aload_n 0, 1) := by decide +kernel
theorem d_Dc_takeNumber_9 : decode b_Dc_takeNumber 9 = .ok (.getfield 10, 3) := by decide +kernel
theorem d_Dc_takeNumber_12 : decode b_Dc_takeNumber 12 = .ok (.invokevirtual 64, 3) := by decide +kernel
theorem d_Dc_takeNumber_15 : decode b_Dc_takeNumber 15 = .ok (.ifCond .ne 22, 3) := by decide +kernel
theorem d_Dc_takeNumber_18 : decode b_Dc_takeNumber 18 = .ok (.aload_n 0, 1) := by decide +kernel
theorem d_Dc_takeNumber_19 : decode b_Dc_takeNumber 19 = .ok (.getfield 16, 3) := by decide +kernel
theorem d_Dc_takeNumber_22 : decode b_Dc_takeNumber 22 = .ok (.iload_n 1, 1) := by decide +kernel
theorem d_Dc_takeNumber_23 : decode b_Dc_takeNumber 23 = .ok (.aload_n 0, 1) := by decide +kernel
theorem d_Dc_takeNumber_24 : decode b_Dc_takeNumber 24 = .ok (.getfield 10, 3) := by decide +kernel
theorem d_Dc_takeNumber_27 : decode b_Dc_takeNumber 27 = .ok (.invokevirtual 68, 3) := by decide +kernel
theorem d_Dc_takeNumber_30 : decode b_Dc_takeNumber 30 = .ok (.iastore, 1) := by decide +kernel
theorem d_Dc_takeNumber_31 : decode b_Dc_takeNumber 31 = .ok (.iinc 1 1, 3) := by decide +kernel
theorem d_Dc_takeNumber_34 : decode b_Dc_takeNumber 34 = .ok (.goto (-32), 3) := by decide +kernel
theorem d_Dc_takeNumber_37 : decode b_Dc_takeNumber 37 = .ok (.iload_n 1, 1) := by decide +kernel
theorem d_Dc_takeNumber_38 : decode b_Dc_takeNumber 38 = .ok (.iconst 1, 1) := by decide +kernel
theorem d_Dc_takeNumber_39 : decode b_Dc_takeNumber 39 = .ok (.isub, 1) := by decide +kernel
theorem d_Dc_takeNumber_40 : decode b_Dc_takeNumber 40 = .ok (.istore_n 2, 1) := by decide +kernel
theorem d_Dc_takeNumber_41 : decode b_Dc_takeNumber 41 = .ok (.iload_n 2, 1) := by decide +kernel
theorem d_Dc_takeNumber_42 : decode b_Dc_takeNumber 42 = .ok (.ifCond .lt 39, 3) := by decide +kernel
theorem d_Dc_takeNumber_45 : decode b_Dc_takeNumber 45 = .ok (.ldc 72, 2) := by decide +kernel
theorem d_Dc_takeNumber_47 : decode b_Dc_takeNumber 47 = .ok (.istore_n 3, 1) := by decide +kernel
theorem d_Dc_takeNumber_48 : decode b_Dc_takeNumber 48 = .ok (.iload_n 3, 1) := by decide +kernel
theorem d_Dc_takeNumber_49 : decode b_Dc_takeNumber 49 = .ok (.ifCond .le 26, 3) := by decide +kernel
theorem d_Dc_takeNumber_52 : decode b_Dc_takeNumber 52 = .ok (.aload_n 0, 1) := by decide +kernel
theorem d_Dc_takeNumber_53 : decode b_Dc_takeNumber 53 = .ok (.aload_n 0, 1) := by decide +kernel
theorem d_Dc_takeNumber_54 : decode b_Dc_takeNumber 54 = .ok (.getfield 16, 3) := by decide +kernel
theorem d_Dc_takeNumber_57 : decode b_Dc_takeNumber 57 = .ok (.iload_n 2, 1) := by decide +kernel
theorem d_Dc_takeNumber_58 : decode b_Dc_takeNumber 58 = .ok (.iaload, 1) := by decide +kernel
theorem d_Dc_takeNumber_59 : decode b_Dc_takeNumber 59 = .ok (.iload_n 3, 1) := by decide +kernel
theorem d_Dc_takeNumber_60 : decode b_Dc_takeNumber 60 = .ok (.idiv, 1) := by decide +kernel
theorem d_Dc_takeNumber_61 : decode b_Dc_takeNumber 61 = .ok (.bipush 10, 2) := by decide +kernel
theorem d_Dc_takeNumber_63 : decode b_Dc_takeNumber 63 = .ok (.irem, 1) := by decide +kernel
theorem d_Dc_takeNumber_64 : decode b_Dc_takeNumber 64 = .ok (.invokevirtual 33, 3) := by decide +kernel
theorem d_Dc_takeNumber_67 : decode b_Dc_takeNumber 67 = .ok (.iload_n 3, 1) := by decide +kernel
theorem d_Dc_takeNumber_68 : decode b_Dc_takeNumber 68 = .ok (.bipush 10, 2) := by decide +kernel
theorem d_Dc_takeNumber_70 : decode b_Dc_takeNumber 70 = .ok (.idiv, 1) := by decide +kernel
theorem d_Dc_takeNumber_71 : decode b_Dc_takeNumber 71 = .ok (.istore_n 3, 1) := by decide +kernel
theorem d_Dc_takeNumber_72 : decode b_Dc_takeNumber 72 = .ok (.goto (-24), 3) := by decide +kernel
theorem d_Dc_takeNumber_75 : decode b_Dc_takeNumber 75 = .ok (.iinc 2 (-1), 3) := by decide +kernel
theorem d_Dc_takeNumber_78 : decode b_Dc_takeNumber 78 = .ok (.goto (-37), 3) := by decide +kernel
theorem d_Dc_takeNumber_81 : decode b_Dc_takeNumber 81 = .ok (.return_, 1) := by decide +kernel
theorem cal_Dc_takeNumber : gx_cal y_Dc_takeNumber b_Dc_takeNumber 4 none 0 := ⟨wd_978, wd_10, by decide +kernel⟩
def ww_Dc_takeNumber (g : Nat → ClassId) (o : Nat) (o_chunks : Nat) (o_digits : Nat) (o_number : Nat) (o_number_limbs : Nat) (x_o_number : Value) (x_o_chunks : Value) (x_o_digits : Value) (x_o_size : Int32) (x_o_point : Int32) (y_o_chunks : Nat → Int32) (y_o_digits : Nat → Int32) (x_o_number_limbs : Value) (x_o_number_size : Int32) (y_o_number_limbs : Nat → Int32) : va_W := [(o, .inr (4, [x_o_number, x_o_chunks, x_o_digits, .int x_o_size, .int x_o_point])), (o_chunks, .inl (g 0, 88, .inl y_o_chunks)), (o_digits, .inl (g 1, 792, .inl y_o_digits)), (o_number, .inr (1, [x_o_number_limbs, .int x_o_number_size])), (o_number_limbs, .inl (g 0, 96, .inl y_o_number_limbs))]
def f_Dc_takeNumber_48 (k41 : Int32 → (Nat → Int32) → Int32 → Int32 → (Nat → Int32) → (Nat → Int32) → Option ((Nat → Int32) × Int32 × Int32 × (Nat → Int32) × (Nat → Int32))) : Nat → Int32 → Int32 → (Nat → Int32) → Int32 → Int32 → (Nat → Int32) → (Nat → Int32) → Option ((Nat → Int32) × Int32 × Int32 × (Nat → Int32) × (Nat → Int32))
  | 0, _, _, _, _, _, _, _ => none
  | n + 1, v2, v3, o_chunks_cq, o_sizeq, o_number_sizeq, o_number_limbs_cq, o_digits_cq => if v3 ≤ 0 then (k41 (v2 + (-1)) o_chunks_cq o_sizeq o_number_sizeq o_number_limbs_cq o_digits_cq) else (if gx_ok v2 88 = true then if ¬ v3 = 0 then (f_Dc_append (((o_chunks_cq v2.toNatClampNeg) / v3) - ((o_chunks_cq v2.toNatClampNeg) / v3) / (10 : Int32) * (10 : Int32)) o_sizeq o_digits_cq).bind fun u64 => f_Dc_takeNumber_48 k41 n v2 (v3 / (10 : Int32)) o_chunks_cq u64.1 o_number_sizeq o_number_limbs_cq u64.2 else none else none)
def f_Dc_takeNumber_41 : Nat → Int32 → (Nat → Int32) → Int32 → Int32 → (Nat → Int32) → (Nat → Int32) → Option ((Nat → Int32) × Int32 × Int32 × (Nat → Int32) × (Nat → Int32))
  | 0, _, _, _, _, _, _ => none
  | n + 1, v2, o_chunks_cq, o_sizeq, o_number_sizeq, o_number_limbs_cq, o_digits_cq => if v2 < 0 then (some (o_chunks_cq, o_sizeq, o_number_sizeq, o_number_limbs_cq, o_digits_cq)) else (f_Dc_takeNumber_48 (fun v2 o_chunks_cq o_sizeq o_number_sizeq o_number_limbs_cq o_digits_cq => f_Dc_takeNumber_41 n v2 o_chunks_cq o_sizeq o_number_sizeq o_number_limbs_cq o_digits_cq) gx_fu v2 (100000000 : Int32) o_chunks_cq o_sizeq o_number_sizeq o_number_limbs_cq o_digits_cq)
def f_Dc_takeNumber_37 (v1 : Int32) (o_chunks_cq : Nat → Int32) (o_sizeq : Int32) (o_number_sizeq : Int32) (o_number_limbs_cq : Nat → Int32) (o_digits_cq : Nat → Int32) : Option ((Nat → Int32) × Int32 × Int32 × (Nat → Int32) × (Nat → Int32)) := f_Dc_takeNumber_41 gx_fu (v1 - (1 : Int32)) o_chunks_cq o_sizeq o_number_sizeq o_number_limbs_cq o_digits_cq
def f_Dc_takeNumber_2 : Nat → Int32 → (Nat → Int32) → Int32 → Int32 → (Nat → Int32) → (Nat → Int32) → Option ((Nat → Int32) × Int32 × Int32 × (Nat → Int32) × (Nat → Int32))
  | 0, _, _, _, _, _, _ => none
  | n + 1, v1, o_chunks_cq, o_sizeq, o_number_sizeq, o_number_limbs_cq, o_digits_cq => if (88 : Int32) ≤ v1 then (f_Dc_takeNumber_37 v1 o_chunks_cq o_sizeq o_number_sizeq o_number_limbs_cq o_digits_cq) else ((f_Bg_isZero o_number_sizeq).bind fun u12 => if u12 = 0 then ((f_Bg_divideByBillion o_number_sizeq o_number_limbs_cq).bind fun u27 => if gx_ok v1 88 = true then f_Dc_takeNumber_2 n (v1 + 1) (upd o_chunks_cq v1.toNatClampNeg u27.1) o_sizeq u27.2.1 u27.2.2 o_digits_cq else none) else (f_Dc_takeNumber_37 v1 o_chunks_cq o_sizeq o_number_sizeq o_number_limbs_cq o_digits_cq))
def f_Dc_takeNumber (o_chunks_c : Nat → Int32) (o_size : Int32) (o_number_size : Int32) (o_number_limbs_c : Nat → Int32) (o_digits_c : Nat → Int32) : Option ((Nat → Int32) × Int32 × Int32 × (Nat → Int32) × (Nat → Int32)) := f_Dc_takeNumber_2 gx_fu (0 : Int32) o_chunks_c o_size o_number_size o_number_limbs_c o_digits_c
set_option maxHeartbeats 4000000 in
set_option maxRecDepth 100000 in
theorem c_Dc_takeNumber (l : Launch) (z : State) (D : va_G) (g : Nat → ClassId) (o : Nat) (o_chunks : Nat) (o_digits : Nat) (o_number : Nat) (o_number_limbs : Nat) (o_size : Int32) (o_point : Int32) (o_chunks_c : Nat → Int32) (o_digits_c : Nat → Int32) (o_number_size : Int32) (o_number_limbs_c : Nat → Int32) (r : (Nat → Int32) × Int32 × Int32 × (Nat → Int32) × (Nat → Int32)) (hf : f_Dc_takeNumber o_chunks_c o_size o_number_size o_number_limbs_c o_digits_c = some r) : gx_Mv l z D g y_Dc_takeNumber b_Dc_takeNumber 4 ({ frames := 2, cells := 0, slots := 0, locals := 46 } : Room) [.ref o] (ww_Dc_takeNumber g o o_chunks o_digits o_number o_number_limbs (.ref o_number) (.ref o_chunks) (.ref o_digits) o_size o_point o_chunks_c o_digits_c (.ref o_number_limbs) o_number_size o_number_limbs_c) (ww_Dc_takeNumber g o o_chunks o_digits o_number o_number_limbs (.ref o_number) (.ref o_chunks) (.ref o_digits) r.2.1 o_point r.1 r.2.2.2.2 (.ref o_number_limbs) r.2.2.1 r.2.2.2.1) := by
  refine gx_go (by decide +kernel) rfl ?_
  intro p e s m below meth c ls S hr hlk hnm E hP hD hl
  have hS : va_S (va_A (ww_Dc_takeNumber g o o_chunks o_digits o_number o_number_limbs (.ref o_number) (.ref o_chunks) (.ref o_digits) o_size o_point o_chunks_c o_digits_c (.ref o_number_limbs) o_number_size o_number_limbs_c) s.heap.size) s.heap s.heap [] := va_S.rf
  have hl : lv_has ls 4 [(0, .ref o)] := hl
  have c_48 : ∀ (k41 : Int32 → (Nat → Int32) → Int32 → Int32 → (Nat → Int32) → (Nat → Int32) → Option ((Nat → Int32) × Int32 × Int32 × (Nat → Int32) × (Nat → Int32))) (hk41 : ∀ (v2 : Int32) (o_chunks_cq : Nat → Int32) (o_sizeq : Int32) (o_number_sizeq : Int32) (o_number_limbs_cq : Nat → Int32) (o_digits_cq : Nat → Int32) (ls : Array Slot) (H : Heap) (locs : List Loc), lv_has ls 4 [(0, .ref o), (2, .int v2)] → va_S (va_A (ww_Dc_takeNumber g o o_chunks o_digits o_number o_number_limbs (.ref o_number) (.ref o_chunks) (.ref o_digits) o_size o_point o_chunks_c o_digits_c (.ref o_number_limbs) o_number_size o_number_limbs_c) s.heap.size) s.heap H locs → va_P D vwC (ww_Dc_takeNumber g o o_chunks o_digits o_number o_number_limbs (.ref o_number) (.ref o_chunks) (.ref o_digits) o_sizeq o_point o_chunks_cq o_digits_cq (.ref o_number_limbs) o_number_sizeq o_number_limbs_cq) H → va_D (va_A (ww_Dc_takeNumber g o o_chunks o_digits o_number o_number_limbs (.ref o_number) (.ref o_chunks) (.ref o_digits) o_size o_point o_chunks_c o_digits_c (.ref o_number_limbs) o_number_size o_number_limbs_c) s.heap.size) (ww_Dc_takeNumber g o o_chunks o_digits o_number o_number_limbs (.ref o_number) (.ref o_chunks) (.ref o_digits) o_sizeq o_point o_chunks_cq o_digits_cq (.ref o_number_limbs) o_number_sizeq o_number_limbs_cq) → (k41 v2 o_chunks_cq o_sizeq o_number_sizeq o_number_limbs_cq o_digits_cq) = some r → W p l e ({ frames := 2, cells := 0, slots := 0, locals := 46 } : Room) s m ([.ref o] : List Value).toArray below meth c H locs 0 0 (MQ below (gx_Qv D (ww_Dc_takeNumber g o o_chunks o_digits o_number o_number_limbs (.ref o_number) (.ref o_chunks) (.ref o_digits) o_size o_point o_chunks_c o_digits_c (.ref o_number_limbs) o_number_size o_number_limbs_c) (ww_Dc_takeNumber g o o_chunks o_digits o_number o_number_limbs (.ref o_number) (.ref o_chunks) (.ref o_digits) r.2.1 o_point r.1 r.2.2.2.2 (.ref o_number_limbs) r.2.2.1 r.2.2.2.1) s.heap.size) ([.ref o] : List Value).toArray s 0 0 (va_A (ww_Dc_takeNumber g o o_chunks o_digits o_number o_number_limbs (.ref o_number) (.ref o_chunks) (.ref o_digits) o_size o_point o_chunks_c o_digits_c (.ref o_number_limbs) o_number_size o_number_limbs_c) s.heap.size)) (F0 m 41 ls [])), ∀ n : Nat, ∀ (v2 : Int32) (v3 : Int32) (o_chunks_cq : Nat → Int32) (o_sizeq : Int32) (o_number_sizeq : Int32) (o_number_limbs_cq : Nat → Int32) (o_digits_cq : Nat → Int32) (ls : Array Slot) (H : Heap) (locs : List Loc), lv_has ls 4 [(0, .ref o), (2, .int v2), (3, .int v3)] → va_S (va_A (ww_Dc_takeNumber g o o_chunks o_digits o_number o_number_limbs (.ref o_number) (.ref o_chunks) (.ref o_digits) o_size o_point o_chunks_c o_digits_c (.ref o_number_limbs) o_number_size o_number_limbs_c) s.heap.size) s.heap H locs → va_P D vwC (ww_Dc_takeNumber g o o_chunks o_digits o_number o_number_limbs (.ref o_number) (.ref o_chunks) (.ref o_digits) o_sizeq o_point o_chunks_cq o_digits_cq (.ref o_number_limbs) o_number_sizeq o_number_limbs_cq) H → va_D (va_A (ww_Dc_takeNumber g o o_chunks o_digits o_number o_number_limbs (.ref o_number) (.ref o_chunks) (.ref o_digits) o_size o_point o_chunks_c o_digits_c (.ref o_number_limbs) o_number_size o_number_limbs_c) s.heap.size) (ww_Dc_takeNumber g o o_chunks o_digits o_number o_number_limbs (.ref o_number) (.ref o_chunks) (.ref o_digits) o_sizeq o_point o_chunks_cq o_digits_cq (.ref o_number_limbs) o_number_sizeq o_number_limbs_cq) → (f_Dc_takeNumber_48 k41 n v2 v3 o_chunks_cq o_sizeq o_number_sizeq o_number_limbs_cq o_digits_cq) = some r → W p l e ({ frames := 2, cells := 0, slots := 0, locals := 46 } : Room) s m ([.ref o] : List Value).toArray below meth c H locs 0 0 (MQ below (gx_Qv D (ww_Dc_takeNumber g o o_chunks o_digits o_number o_number_limbs (.ref o_number) (.ref o_chunks) (.ref o_digits) o_size o_point o_chunks_c o_digits_c (.ref o_number_limbs) o_number_size o_number_limbs_c) (ww_Dc_takeNumber g o o_chunks o_digits o_number o_number_limbs (.ref o_number) (.ref o_chunks) (.ref o_digits) r.2.1 o_point r.1 r.2.2.2.2 (.ref o_number_limbs) r.2.2.1 r.2.2.2.1) s.heap.size) ([.ref o] : List Value).toArray s 0 0 (va_A (ww_Dc_takeNumber g o o_chunks o_digits o_number o_number_limbs (.ref o_number) (.ref o_chunks) (.ref o_digits) o_size o_point o_chunks_c o_digits_c (.ref o_number_limbs) o_number_size o_number_limbs_c) s.heap.size)) (F0 m 48 ls []) := by
    intro k41 hk41
    intro n
    induction n with
    | zero => intro v2 v3 o_chunks_cq o_sizeq o_number_sizeq o_number_limbs_cq o_digits_cq ls H locs hl hS hP hD hf; cases hf
    | succ n ih =>
      intro v2 v3 o_chunks_cq o_sizeq o_number_sizeq o_number_limbs_cq o_digits_cq ls H locs hl hS hP hD hf
      have hf : (if v3 ≤ 0 then (k41 (v2 + (-1)) o_chunks_cq o_sizeq o_number_sizeq o_number_limbs_cq o_digits_cq) else (if gx_ok v2 88 = true then if ¬ v3 = 0 then (f_Dc_append (((o_chunks_cq v2.toNatClampNeg) / v3) - ((o_chunks_cq v2.toNatClampNeg) / v3) / (10 : Int32) * (10 : Int32)) o_sizeq o_digits_cq).bind fun u64 => f_Dc_takeNumber_48 k41 n v2 (v3 / (10 : Int32)) o_chunks_cq u64.1 o_number_sizeq o_number_limbs_cq u64.2 else none else none)) = some r := hf
      refine lv_iload_n S.1 S.2.1 d_Dc_takeNumber_48 rfl (lv_at hl 2 rfl) ?_
      refine lv_if_le (tgt := 75) S.1 S.2.1 d_Dc_takeNumber_49 (by decide) (fun h => ?_) (fun h => ?_)
      ·
        have hf := gx_ifp h hf
        refine lv_iinc (v := v2 + (-1)) (lv' := [(2, .int (v2 + (-1))), (0, .ref o), (3, .int v3)]) S.1 S.2.1 d_Dc_takeNumber_75 hl (k := 1) rfl rfl (by decide) rfl (fun ls hl => ?_)
        refine lv_goto (tgt := 41) S.1 S.2.1 d_Dc_takeNumber_78 (by decide) ?_
        exact hk41 (v2 + (-1)) o_chunks_cq o_sizeq o_number_sizeq o_number_limbs_cq o_digits_cq ls _ _ (lv_sub hl [1, 0] rfl) hS hP hD hf
      ·
        have hf := gx_ifn h hf
        refine lv_aload_n S.1 S.2.1 d_Dc_takeNumber_52 rfl (lv_at hl 0 rfl) ?_
        refine lv_aload_n S.1 S.2.1 d_Dc_takeNumber_53 rfl (lv_at hl 0 rfl) ?_
        refine gx_gf (v := .ref o_chunks) S E hP 0 rfl rfl i_Dc 1 rfl wd_209 ⟨rfl, rfl, rfl⟩ rfl d_Dc_takeNumber_54 ?_
        refine lv_iload_n S.1 S.2.1 d_Dc_takeNumber_57 rfl (lv_at hl 1 rfl) ?_
        obtain ⟨hin, hf⟩ := gx_chk hf
        refine va_iald S.1 S.2.1 E.1.1 hP 1 0 rfl rfl (gx_okv hin) d_Dc_takeNumber_58 ?_
        refine lv_iload_n S.1 S.2.1 d_Dc_takeNumber_59 rfl (lv_at hl 2 rfl) ?_
        obtain ⟨hne, hf⟩ := gx_chk hf
        refine lv_idiv S.1 S.2.1 d_Dc_takeNumber_60 hne ?_
        refine lv_bipush (v := 10) S.1 S.2.1 d_Dc_takeNumber_61 (by decide) ?_
        refine lv_irem S.1 S.2.1 d_Dc_takeNumber_63 (by decide) ?_
        obtain ⟨u64, hc64, hf⟩ := gx_bnd hf
        refine gx_Vv (ws2 := (ww_Dc_takeNumber g o o_chunks o_digits o_number o_number_limbs (.ref o_number) (.ref o_chunks) (.ref o_digits) u64.1 o_point o_chunks_cq u64.2 (.ref o_number_limbs) o_number_sizeq o_number_limbs_cq)) S E hS hP hD (c_Dc_append l z D g o o_digits (.ref o_number) (.ref o_chunks) o_sizeq o_point o_digits_cq (((o_chunks_cq v2.toNatClampNeg) / v3) - ((o_chunks_cq v2.toNatClampNeg) / v3) / (10 : Int32) * (10 : Int32)) u64 hc64) cal_Dc_append wd_580 ws_5 wd_578 rfl [0, 2] rfl rfl rfl (gx_rc E hP 0 rfl rfl) rfl hl.1 rfl d_Dc_takeNumber_64 ⟨Nat.zero_le _, Nat.zero_le _⟩ rfl (fun H locs hS hP hD => ?_)
        refine lv_iload_n S.1 S.2.1 d_Dc_takeNumber_67 rfl (lv_at hl 2 rfl) ?_
        refine lv_bipush (v := 10) S.1 S.2.1 d_Dc_takeNumber_68 (by decide) ?_
        refine lv_idiv S.1 S.2.1 d_Dc_takeNumber_70 (by decide) ?_
        refine lv_istore_n (lv' := [(3, .int (v3 / (10 : Int32))), (0, .ref o), (2, .int v2)]) S.1 S.2.1 d_Dc_takeNumber_71 rfl hl (by decide) rfl (fun ls hl => ?_)
        refine lv_goto (tgt := 48) S.1 S.2.1 d_Dc_takeNumber_72 (by decide) ?_
        exact ih v2 (v3 / (10 : Int32)) o_chunks_cq u64.1 o_number_sizeq o_number_limbs_cq u64.2 ls _ _ (lv_sub hl [1, 2, 0] rfl) hS hP hD hf
  have c_41 : ∀ n : Nat, ∀ (v2 : Int32) (o_chunks_cq : Nat → Int32) (o_sizeq : Int32) (o_number_sizeq : Int32) (o_number_limbs_cq : Nat → Int32) (o_digits_cq : Nat → Int32) (ls : Array Slot) (H : Heap) (locs : List Loc), lv_has ls 4 [(0, .ref o), (2, .int v2)] → va_S (va_A (ww_Dc_takeNumber g o o_chunks o_digits o_number o_number_limbs (.ref o_number) (.ref o_chunks) (.ref o_digits) o_size o_point o_chunks_c o_digits_c (.ref o_number_limbs) o_number_size o_number_limbs_c) s.heap.size) s.heap H locs → va_P D vwC (ww_Dc_takeNumber g o o_chunks o_digits o_number o_number_limbs (.ref o_number) (.ref o_chunks) (.ref o_digits) o_sizeq o_point o_chunks_cq o_digits_cq (.ref o_number_limbs) o_number_sizeq o_number_limbs_cq) H → va_D (va_A (ww_Dc_takeNumber g o o_chunks o_digits o_number o_number_limbs (.ref o_number) (.ref o_chunks) (.ref o_digits) o_size o_point o_chunks_c o_digits_c (.ref o_number_limbs) o_number_size o_number_limbs_c) s.heap.size) (ww_Dc_takeNumber g o o_chunks o_digits o_number o_number_limbs (.ref o_number) (.ref o_chunks) (.ref o_digits) o_sizeq o_point o_chunks_cq o_digits_cq (.ref o_number_limbs) o_number_sizeq o_number_limbs_cq) → (f_Dc_takeNumber_41 n v2 o_chunks_cq o_sizeq o_number_sizeq o_number_limbs_cq o_digits_cq) = some r → W p l e ({ frames := 2, cells := 0, slots := 0, locals := 46 } : Room) s m ([.ref o] : List Value).toArray below meth c H locs 0 0 (MQ below (gx_Qv D (ww_Dc_takeNumber g o o_chunks o_digits o_number o_number_limbs (.ref o_number) (.ref o_chunks) (.ref o_digits) o_size o_point o_chunks_c o_digits_c (.ref o_number_limbs) o_number_size o_number_limbs_c) (ww_Dc_takeNumber g o o_chunks o_digits o_number o_number_limbs (.ref o_number) (.ref o_chunks) (.ref o_digits) r.2.1 o_point r.1 r.2.2.2.2 (.ref o_number_limbs) r.2.2.1 r.2.2.2.1) s.heap.size) ([.ref o] : List Value).toArray s 0 0 (va_A (ww_Dc_takeNumber g o o_chunks o_digits o_number o_number_limbs (.ref o_number) (.ref o_chunks) (.ref o_digits) o_size o_point o_chunks_c o_digits_c (.ref o_number_limbs) o_number_size o_number_limbs_c) s.heap.size)) (F0 m 41 ls []) := by
    intro n
    induction n with
    | zero => intro v2 o_chunks_cq o_sizeq o_number_sizeq o_number_limbs_cq o_digits_cq ls H locs hl hS hP hD hf; cases hf
    | succ n ih =>
      intro v2 o_chunks_cq o_sizeq o_number_sizeq o_number_limbs_cq o_digits_cq ls H locs hl hS hP hD hf
      have hf : (if v2 < 0 then (some (o_chunks_cq, o_sizeq, o_number_sizeq, o_number_limbs_cq, o_digits_cq)) else (f_Dc_takeNumber_48 (fun v2 o_chunks_cq o_sizeq o_number_sizeq o_number_limbs_cq o_digits_cq => f_Dc_takeNumber_41 n v2 o_chunks_cq o_sizeq o_number_sizeq o_number_limbs_cq o_digits_cq) gx_fu v2 (100000000 : Int32) o_chunks_cq o_sizeq o_number_sizeq o_number_limbs_cq o_digits_cq)) = some r := hf
      refine lv_iload_n S.1 S.2.1 d_Dc_takeNumber_41 rfl (lv_at hl 1 rfl) ?_
      refine lv_if_lt (tgt := 81) S.1 S.2.1 d_Dc_takeNumber_42 (by decide) (fun h => ?_) (fun h => ?_)
      ·
        have hf := gx_ifp h hf
        obtain rfl := Option.some.inj hf
        exact gx_rv S hr hlk hS hP hD d_Dc_takeNumber_81
      ·
        have hf := gx_ifn h hf
        refine lv_ldc (v := 100000000) S.1 S.2.1 S.2.2.2.1 (S.2.2.2.2 _ wd_985) d_Dc_takeNumber_45 ?_
        refine lv_istore_n (lv' := [(3, .int (100000000 : Int32)), (0, .ref o), (2, .int v2)]) S.1 S.2.1 d_Dc_takeNumber_47 rfl hl (by decide) rfl (fun ls hl => ?_)
        exact c_48 (fun v2 o_chunks_cq o_sizeq o_number_sizeq o_number_limbs_cq o_digits_cq => f_Dc_takeNumber_41 n v2 o_chunks_cq o_sizeq o_number_sizeq o_number_limbs_cq o_digits_cq) ih gx_fu v2 (100000000 : Int32) o_chunks_cq o_sizeq o_number_sizeq o_number_limbs_cq o_digits_cq ls _ _ (lv_sub hl [1, 2, 0] rfl) hS hP hD hf
  have c_37 : ∀ (v1 : Int32) (o_chunks_cq : Nat → Int32) (o_sizeq : Int32) (o_number_sizeq : Int32) (o_number_limbs_cq : Nat → Int32) (o_digits_cq : Nat → Int32) (ls : Array Slot) (H : Heap) (locs : List Loc), lv_has ls 4 [(0, .ref o), (1, .int v1)] → va_S (va_A (ww_Dc_takeNumber g o o_chunks o_digits o_number o_number_limbs (.ref o_number) (.ref o_chunks) (.ref o_digits) o_size o_point o_chunks_c o_digits_c (.ref o_number_limbs) o_number_size o_number_limbs_c) s.heap.size) s.heap H locs → va_P D vwC (ww_Dc_takeNumber g o o_chunks o_digits o_number o_number_limbs (.ref o_number) (.ref o_chunks) (.ref o_digits) o_sizeq o_point o_chunks_cq o_digits_cq (.ref o_number_limbs) o_number_sizeq o_number_limbs_cq) H → va_D (va_A (ww_Dc_takeNumber g o o_chunks o_digits o_number o_number_limbs (.ref o_number) (.ref o_chunks) (.ref o_digits) o_size o_point o_chunks_c o_digits_c (.ref o_number_limbs) o_number_size o_number_limbs_c) s.heap.size) (ww_Dc_takeNumber g o o_chunks o_digits o_number o_number_limbs (.ref o_number) (.ref o_chunks) (.ref o_digits) o_sizeq o_point o_chunks_cq o_digits_cq (.ref o_number_limbs) o_number_sizeq o_number_limbs_cq) → (f_Dc_takeNumber_37 v1 o_chunks_cq o_sizeq o_number_sizeq o_number_limbs_cq o_digits_cq) = some r → W p l e ({ frames := 2, cells := 0, slots := 0, locals := 46 } : Room) s m ([.ref o] : List Value).toArray below meth c H locs 0 0 (MQ below (gx_Qv D (ww_Dc_takeNumber g o o_chunks o_digits o_number o_number_limbs (.ref o_number) (.ref o_chunks) (.ref o_digits) o_size o_point o_chunks_c o_digits_c (.ref o_number_limbs) o_number_size o_number_limbs_c) (ww_Dc_takeNumber g o o_chunks o_digits o_number o_number_limbs (.ref o_number) (.ref o_chunks) (.ref o_digits) r.2.1 o_point r.1 r.2.2.2.2 (.ref o_number_limbs) r.2.2.1 r.2.2.2.1) s.heap.size) ([.ref o] : List Value).toArray s 0 0 (va_A (ww_Dc_takeNumber g o o_chunks o_digits o_number o_number_limbs (.ref o_number) (.ref o_chunks) (.ref o_digits) o_size o_point o_chunks_c o_digits_c (.ref o_number_limbs) o_number_size o_number_limbs_c) s.heap.size)) (F0 m 37 ls []) := by
    intro v1 o_chunks_cq o_sizeq o_number_sizeq o_number_limbs_cq o_digits_cq ls H locs hl hS hP hD hf
    have hf : (f_Dc_takeNumber_41 gx_fu (v1 - (1 : Int32)) o_chunks_cq o_sizeq o_number_sizeq o_number_limbs_cq o_digits_cq) = some r := hf
    refine lv_iload_n S.1 S.2.1 d_Dc_takeNumber_37 rfl (lv_at hl 1 rfl) ?_
    refine lv_iconst (v := 1) S.1 S.2.1 d_Dc_takeNumber_38 (by decide) ?_
    refine lv_isub S.1 S.2.1 d_Dc_takeNumber_39 ?_
    refine lv_istore_n (lv' := [(2, .int (v1 - (1 : Int32))), (0, .ref o), (1, .int v1)]) S.1 S.2.1 d_Dc_takeNumber_40 rfl hl (by decide) rfl (fun ls hl => ?_)
    exact c_41 gx_fu (v1 - (1 : Int32)) o_chunks_cq o_sizeq o_number_sizeq o_number_limbs_cq o_digits_cq ls _ _ (lv_sub hl [1, 0] rfl) hS hP hD hf
  have c_2 : ∀ n : Nat, ∀ (v1 : Int32) (o_chunks_cq : Nat → Int32) (o_sizeq : Int32) (o_number_sizeq : Int32) (o_number_limbs_cq : Nat → Int32) (o_digits_cq : Nat → Int32) (ls : Array Slot) (H : Heap) (locs : List Loc), lv_has ls 4 [(0, .ref o), (1, .int v1)] → va_S (va_A (ww_Dc_takeNumber g o o_chunks o_digits o_number o_number_limbs (.ref o_number) (.ref o_chunks) (.ref o_digits) o_size o_point o_chunks_c o_digits_c (.ref o_number_limbs) o_number_size o_number_limbs_c) s.heap.size) s.heap H locs → va_P D vwC (ww_Dc_takeNumber g o o_chunks o_digits o_number o_number_limbs (.ref o_number) (.ref o_chunks) (.ref o_digits) o_sizeq o_point o_chunks_cq o_digits_cq (.ref o_number_limbs) o_number_sizeq o_number_limbs_cq) H → va_D (va_A (ww_Dc_takeNumber g o o_chunks o_digits o_number o_number_limbs (.ref o_number) (.ref o_chunks) (.ref o_digits) o_size o_point o_chunks_c o_digits_c (.ref o_number_limbs) o_number_size o_number_limbs_c) s.heap.size) (ww_Dc_takeNumber g o o_chunks o_digits o_number o_number_limbs (.ref o_number) (.ref o_chunks) (.ref o_digits) o_sizeq o_point o_chunks_cq o_digits_cq (.ref o_number_limbs) o_number_sizeq o_number_limbs_cq) → (f_Dc_takeNumber_2 n v1 o_chunks_cq o_sizeq o_number_sizeq o_number_limbs_cq o_digits_cq) = some r → W p l e ({ frames := 2, cells := 0, slots := 0, locals := 46 } : Room) s m ([.ref o] : List Value).toArray below meth c H locs 0 0 (MQ below (gx_Qv D (ww_Dc_takeNumber g o o_chunks o_digits o_number o_number_limbs (.ref o_number) (.ref o_chunks) (.ref o_digits) o_size o_point o_chunks_c o_digits_c (.ref o_number_limbs) o_number_size o_number_limbs_c) (ww_Dc_takeNumber g o o_chunks o_digits o_number o_number_limbs (.ref o_number) (.ref o_chunks) (.ref o_digits) r.2.1 o_point r.1 r.2.2.2.2 (.ref o_number_limbs) r.2.2.1 r.2.2.2.1) s.heap.size) ([.ref o] : List Value).toArray s 0 0 (va_A (ww_Dc_takeNumber g o o_chunks o_digits o_number o_number_limbs (.ref o_number) (.ref o_chunks) (.ref o_digits) o_size o_point o_chunks_c o_digits_c (.ref o_number_limbs) o_number_size o_number_limbs_c) s.heap.size)) (F0 m 2 ls []) := by
    intro n
    induction n with
    | zero => intro v1 o_chunks_cq o_sizeq o_number_sizeq o_number_limbs_cq o_digits_cq ls H locs hl hS hP hD hf; cases hf
    | succ n ih =>
      intro v1 o_chunks_cq o_sizeq o_number_sizeq o_number_limbs_cq o_digits_cq ls H locs hl hS hP hD hf
      have hf : (if (88 : Int32) ≤ v1 then (f_Dc_takeNumber_37 v1 o_chunks_cq o_sizeq o_number_sizeq o_number_limbs_cq o_digits_cq) else ((f_Bg_isZero o_number_sizeq).bind fun u12 => if u12 = 0 then ((f_Bg_divideByBillion o_number_sizeq o_number_limbs_cq).bind fun u27 => if gx_ok v1 88 = true then f_Dc_takeNumber_2 n (v1 + 1) (upd o_chunks_cq v1.toNatClampNeg u27.1) o_sizeq u27.2.1 u27.2.2 o_digits_cq else none) else (f_Dc_takeNumber_37 v1 o_chunks_cq o_sizeq o_number_sizeq o_number_limbs_cq o_digits_cq))) = some r := hf
      refine lv_iload_n S.1 S.2.1 d_Dc_takeNumber_2 rfl (lv_at hl 1 rfl) ?_
      refine lv_bipush (v := 88) S.1 S.2.1 d_Dc_takeNumber_3 (by decide) ?_
      refine lv_icmp_ge (tgt := 37) S.1 S.2.1 d_Dc_takeNumber_5 (by decide) (fun h => ?_) (fun h => ?_)
      ·
        have hf := gx_ifp h hf
        exact c_37 v1 o_chunks_cq o_sizeq o_number_sizeq o_number_limbs_cq o_digits_cq ls _ _ (lv_sub hl [0, 1] rfl) hS hP hD hf
      ·
        have hf := gx_ifn h hf
        refine lv_aload_n S.1 S.2.1 d_Dc_takeNumber_8 rfl (lv_at hl 0 rfl) ?_
        refine gx_gf (v := .ref o_number) S E hP 0 rfl rfl i_Dc 0 rfl wd_208 ⟨rfl, rfl, rfl⟩ rfl d_Dc_takeNumber_9 ?_
        obtain ⟨u12, hc12, hf⟩ := gx_bnd hf
        refine gx_Vi (ws2 := (ww_Dc_takeNumber g o o_chunks o_digits o_number o_number_limbs (.ref o_number) (.ref o_chunks) (.ref o_digits) o_sizeq o_point o_chunks_cq o_digits_cq (.ref o_number_limbs) o_number_sizeq o_number_limbs_cq)) S E hS hP hD (c_Bg_isZero l z D g o_number (.ref o_number_limbs) o_number_sizeq u12 hc12) cal_Bg_isZero wd_834 wd_835 wd_979 rfl [3] rfl rfl rfl (gx_rc E hP 3 rfl rfl) rfl hl.1 rfl d_Dc_takeNumber_12 ⟨Nat.zero_le _, Nat.zero_le _⟩ rfl (fun H locs hS hP hD => ?_)
        refine lv_if_ne (tgt := 37) S.1 S.2.1 d_Dc_takeNumber_15 (by decide) (fun h => ?_) (fun h => ?_)
        ·
          have hf := gx_ifn h hf
          exact c_37 v1 o_chunks_cq o_sizeq o_number_sizeq o_number_limbs_cq o_digits_cq ls _ _ (lv_sub hl [0, 1] rfl) hS hP hD hf
        ·
          have hf := gx_ifp h hf
          refine lv_aload_n S.1 S.2.1 d_Dc_takeNumber_18 rfl (lv_at hl 0 rfl) ?_
          refine gx_gf (v := .ref o_chunks) S E hP 0 rfl rfl i_Dc 1 rfl wd_209 ⟨rfl, rfl, rfl⟩ rfl d_Dc_takeNumber_19 ?_
          refine lv_iload_n S.1 S.2.1 d_Dc_takeNumber_22 rfl (lv_at hl 1 rfl) ?_
          refine lv_aload_n S.1 S.2.1 d_Dc_takeNumber_23 rfl (lv_at hl 0 rfl) ?_
          refine gx_gf (v := .ref o_number) S E hP 0 rfl rfl i_Dc 0 rfl wd_208 ⟨rfl, rfl, rfl⟩ rfl d_Dc_takeNumber_24 ?_
          obtain ⟨u27, hc27, hf⟩ := gx_bnd hf
          refine gx_Vi (ws2 := (ww_Dc_takeNumber g o o_chunks o_digits o_number o_number_limbs (.ref o_number) (.ref o_chunks) (.ref o_digits) o_sizeq o_point o_chunks_cq o_digits_cq (.ref o_number_limbs) u27.2.1 u27.2.2)) S E hS hP hD (c_Bg_divideByBillion l z D g o_number o_number_limbs o_number_sizeq o_number_limbs_cq u27 hc27) cal_Bg_divideByBillion wd_981 wd_982 wd_980 rfl [3, 4] rfl rfl rfl (gx_rc E hP 3 rfl rfl) rfl hl.1 rfl d_Dc_takeNumber_27 ⟨Nat.zero_le _, Nat.zero_le _⟩ rfl (fun H locs hS hP hD => ?_)
          obtain ⟨hin, hf⟩ := gx_chk hf
          refine gx_iast (ws2 := (ww_Dc_takeNumber g o o_chunks o_digits o_number o_number_limbs (.ref o_number) (.ref o_chunks) (.ref o_digits) o_sizeq o_point (upd o_chunks_cq v1.toNatClampNeg u27.1) o_digits_cq (.ref o_number_limbs) u27.2.1 u27.2.2)) S E hS hP hD 1 0 rfl rfl hin d_Dc_takeNumber_30 rfl (fun H locs hS hP hD => ?_)
          refine lv_iinc (v := v1 + 1) (lv' := [(1, .int (v1 + 1)), (0, .ref o)]) S.1 S.2.1 d_Dc_takeNumber_31 hl (k := 1) rfl rfl (by decide) rfl (fun ls hl => ?_)
          refine lv_goto (tgt := 2) S.1 S.2.1 d_Dc_takeNumber_34 (by decide) ?_
          exact ih (v1 + 1) (upd o_chunks_cq v1.toNatClampNeg u27.1) o_sizeq u27.2.1 u27.2.2 o_digits_cq ls _ _ (lv_sub hl [1, 0] rfl) hS hP hD hf
  have hf : (f_Dc_takeNumber_2 gx_fu (0 : Int32) o_chunks_c o_size o_number_size o_number_limbs_c o_digits_c) = some r := hf
  refine lv_iconst (v := 0) S.1 S.2.1 d_Dc_takeNumber_0 (by decide) ?_
  refine lv_istore_n (lv' := [(1, .int (0 : Int32)), (0, .ref o)]) S.1 S.2.1 d_Dc_takeNumber_1 rfl hl (by decide) rfl (fun ls hl => ?_)
  exact c_2 gx_fu (0 : Int32) o_chunks_c o_size o_number_size o_number_limbs_c o_digits_c ls _ _ (lv_sub hl [1, 0] rfl) hS hP hD hf
theorem d_Dc_takeExact_0 : decode b_Dc_takeExact 0 = .ok (.aload_n 0, 1) := by decide +kernel
theorem d_Dc_takeExact_1 : decode b_Dc_takeExact 1 = .ok (.iconst 0, 1) := by decide +kernel
theorem d_Dc_takeExact_2 : decode b_Dc_takeExact 2 = .ok (.putfield 24, 3) := by decide +kernel
theorem d_Dc_takeExact_5 : decode b_Dc_takeExact 5 = .ok (.aload_n 0, 1) := by decide +kernel
theorem d_Dc_takeExact_6 : decode b_Dc_takeExact 6 = .ok (.iconst 1, 1) := by decide +kernel
theorem d_Dc_takeExact_7 : decode b_Dc_takeExact 7 = .ok (.putfield 28, 3) := by decide +kernel
theorem d_Dc_takeExact_10 : decode b_Dc_takeExact 10 = .ok (.lload_n 1, 1) := by decide +kernel
theorem d_Dc_takeExact_11 : decode b_Dc_takeExact 11 = .ok (.lconst 0, 1) := by decide +kernel
theorem d_Dc_takeExact_12 : decode b_Dc_takeExact 12 = .ok (.lcmp, 1) := by decide +kernel
theorem d_Dc_takeExact_13 : decode b_Dc_takeExact 13 = .ok (.ifCond .ne 4, 3) := by decide +kernel
theorem d_Dc_takeExact_16 : decode b_Dc_takeExact 16 = .ok (.return_, 1) := by decide +kernel
theorem d_Dc_takeExact_17 : decode b_Dc_takeExact 17 = .ok (.lload_n 1, 1) := by decide +kernel
theorem d_Dc_takeExact_18 : decode b_Dc_takeExact 18 = .ok (.invokestatic 39, 3) := by decide +kernel
theorem d_Dc_takeExact_21 : decode b_Dc_takeExact 21 = .ok (.istore 4, 2) := by decide +kernel
theorem d_Dc_takeExact_23 : decode b_Dc_takeExact 23 = .ok (.iload_n 3, 1) := by decide +kernel
theorem d_Dc_takeExact_24 : decode b_Dc_takeExact 24 = .ok (.iload 4, 2) := by decide +kernel
theorem d_Dc_takeExact_26 : decode b_Dc_takeExact 26 = .ok (.iadd, 1) := by decide +kernel
theorem d_Dc_takeExact_27 : decode b_Dc_takeExact 27 = .ok (.istore 5, 2) := by decide +kernel
theorem d_Dc_takeExact_29 : decode b_Dc_takeExact 29 = .ok (.aload_n 0, 1) := by decide +kernel
theorem d_Dc_takeExact_30 : decode b_Dc_takeExact 30 = .ok (.getfield 10, 3) := by decide +kernel
theorem d_Dc_takeExact_33 : decode b_Dc_takeExact 33 = .ok (.lload_n 1, 1) := by decide +kernel
theorem d_Dc_takeExact_34 : decode b_Dc_takeExact 34 = .ok (.iload 4, 2) := by decide +kernel
theorem d_Dc_takeExact_36 : decode b_Dc_takeExact 36 = .ok (.lushr, 1) := by decide +kernel
theorem d_Dc_takeExact_37 : decode b_Dc_takeExact 37 = .ok (.invokevirtual 45, 3) := by decide +kernel
theorem d_Dc_takeExact_40 : decode b_Dc_takeExact 40 = .ok (.iload 5, 2) := by decide +kernel
theorem d_Dc_takeExact_42 : decode b_Dc_takeExact 42 = .ok (.ifCond .lt 15, 3) := by decide +kernel
theorem d_Dc_takeExact_45 : decode b_Dc_takeExact 45 = .ok (.aload_n 0, 1) := by decide +kernel
theorem d_Dc_takeExact_46 : decode b_Dc_takeExact 46 = .ok (.getfield 10, 3) := by decide +kernel
theorem d_Dc_takeExact_49 : decode b_Dc_takeExact 49 = .ok (.iload 5, 2) := by decide +kernel
theorem d_Dc_takeExact_51 : decode b_Dc_takeExact 51 = .ok (.invokevirtual 49, 3) := by decide +kernel
theorem d_Dc_takeExact_54 : decode b_Dc_takeExact 54 = .ok (.goto 13, 3) := by decide +kernel
theorem d_Dc_takeExact_57 : decode b_Dc_takeExact 57 = .ok (.aload_n 0, 1) := by decide +kernel
theorem d_Dc_takeExact_58 : decode b_Dc_takeExact 58 = .ok (.getfield 10, 3) := by decide +kernel
theorem d_Dc_takeExact_61 : decode b_Dc_takeExact 61 = .ok (.iload 5, 2) := by decide +kernel
theorem d_Dc_takeExact_63 : decode b_Dc_takeExact 63 = .ok (.ineg, 1) := by decide +kernel
theorem d_Dc_takeExact_64 : decode b_Dc_takeExact 64 = .ok (.invokevirtual 52, 3) := by decide +kernel
theorem d_Dc_takeExact_67 : decode b_Dc_takeExact 67 = .ok (.aload_n 0, 1) := by decide +kernel
theorem d_Dc_takeExact_68 : decode b_Dc_takeExact 68 = .ok (.invokevirtual 55, 3) := by decide +kernel
theorem d_Dc_takeExact_71 : decode b_Dc_takeExact 71 = .ok (.aload_n 0, 1) := by decide +kernel
theorem d_Dc_takeExact_72 : decode b_Dc_takeExact 72 = .ok (.aload_n 0, 1) := by decide +kernel
theorem d_Dc_takeExact_73 : decode b_Dc_takeExact 73 = .ok (.getfield 24, 3) := by decide +kernel
theorem d_Dc_takeExact_76 : decode b_Dc_takeExact 76 = .ok (.iload 5, 2) := by decide +kernel
theorem d_Dc_takeExact_78 : decode b_Dc_takeExact 78 = .ok (.iconst 0, 1) := by decide +kernel
theorem d_Dc_takeExact_79 : decode b_Dc_takeExact 79 = .ok (.invokestatic 58, 3) := by decide +kernel
theorem d_Dc_takeExact_82 : decode b_Dc_takeExact 82 = .ok (.iadd, 1) := by decide +kernel
theorem d_Dc_takeExact_83 : decode b_Dc_takeExact 83 = .ok (.putfield 28, 3) := by decide +kernel
theorem d_Dc_takeExact_86 : decode b_Dc_takeExact 86 = .ok (.return_, 1) := by decide +kernel
theorem cal_Dc_takeExact : gx_cal y_Dc_takeExact b_Dc_takeExact 6 none 2 := ⟨wd_970, wd_10, by decide +kernel⟩
def ww_Dc_takeExact (g : Nat → ClassId) (o : Nat) (o_number : Nat) (o_number_limbs : Nat) (o_chunks : Nat) (o_digits : Nat) (x_o_number : Value) (x_o_chunks : Value) (x_o_digits : Value) (x_o_size : Int32) (x_o_point : Int32) (x_o_number_limbs : Value) (x_o_number_size : Int32) (y_o_number_limbs : Nat → Int32) (y_o_chunks : Nat → Int32) (y_o_digits : Nat → Int32) : va_W := [(o, .inr (4, [x_o_number, x_o_chunks, x_o_digits, .int x_o_size, .int x_o_point])), (o_number, .inr (1, [x_o_number_limbs, .int x_o_number_size])), (o_number_limbs, .inl (g 0, 96, .inl y_o_number_limbs)), (o_chunks, .inl (g 0, 88, .inl y_o_chunks)), (o_digits, .inl (g 1, 792, .inl y_o_digits))]
def f_Dc_takeExact_67 (v5 : Int32) (o_number_sizeq : Int32) (o_number_limbs_cq : Nat → Int32) (o_chunks_cq : Nat → Int32) (o_sizeq : Int32) (o_pointq : Int32) (o_digits_cq : Nat → Int32) : Option (Int32 × (Nat → Int32) × (Nat → Int32) × Int32 × Int32 × (Nat → Int32)) := (f_Dc_takeNumber o_chunks_cq o_sizeq o_number_sizeq o_number_limbs_cq o_digits_cq).bind fun u68 => (f_JMath_min v5 (0 : Int32)).bind fun u79 => some (u68.2.2.1, u68.2.2.2.1, u68.1, u68.2.1, u68.2.1 + u79, u68.2.2.2.2)
def f_Dc_takeExact (a1 : Int64) (a2 : Int32) (o_number_size : Int32) (o_number_limbs_c : Nat → Int32) (o_chunks_c : Nat → Int32) (o_size : Int32) (o_point : Int32) (o_digits_c : Nat → Int32) : Option (Int32 × (Nat → Int32) × (Nat → Int32) × Int32 × Int32 × (Nat → Int32)) := if a1 = (0 : Int64) then (some (o_number_size, o_number_limbs_c, o_chunks_c, (0 : Int32), (1 : Int32), o_digits_c)) else ((f_JLong_numberOfTrailingZeros a1).bind fun u18 => (f_Bg_set ((a1.toUInt64 >>> (u18.toInt64.toUInt64 &&& Int64.toUInt64 63)).toInt64) o_number_size o_number_limbs_c).bind fun u37 => if (a2 + u18) < 0 then ((f_Bg_timesFives (-(a2 + u18)) u37.1 u37.2).bind fun u64 => f_Dc_takeExact_67 (a2 + u18) u64.1 u64.2 o_chunks_c (0 : Int32) (1 : Int32) o_digits_c) else ((f_Bg_shiftLeft (a2 + u18) u37.1 u37.2).bind fun u51 => f_Dc_takeExact_67 (a2 + u18) u51.1 u51.2 o_chunks_c (0 : Int32) (1 : Int32) o_digits_c))
set_option maxHeartbeats 4000000 in
set_option maxRecDepth 100000 in
theorem c_Dc_takeExact (l : Launch) (z : State) (D : va_G) (g : Nat → ClassId) (o : Nat) (o_number : Nat) (o_number_limbs : Nat) (o_chunks : Nat) (o_digits : Nat) (o_size : Int32) (o_point : Int32) (o_number_size : Int32) (o_number_limbs_c : Nat → Int32) (o_chunks_c : Nat → Int32) (o_digits_c : Nat → Int32) (a1 : Int64) (a2 : Int32) (r : Int32 × (Nat → Int32) × (Nat → Int32) × Int32 × Int32 × (Nat → Int32)) (hf : f_Dc_takeExact a1 a2 o_number_size o_number_limbs_c o_chunks_c o_size o_point o_digits_c = some r) : gx_Mv l z D g y_Dc_takeExact b_Dc_takeExact 6 ({ frames := 3, cells := 0, slots := 0, locals := 69 } : Room) [.ref o, .long a1, .int a2] (ww_Dc_takeExact g o o_number o_number_limbs o_chunks o_digits (.ref o_number) (.ref o_chunks) (.ref o_digits) o_size o_point (.ref o_number_limbs) o_number_size o_number_limbs_c o_chunks_c o_digits_c) (ww_Dc_takeExact g o o_number o_number_limbs o_chunks o_digits (.ref o_number) (.ref o_chunks) (.ref o_digits) r.2.2.2.1 r.2.2.2.2.1 (.ref o_number_limbs) r.1 r.2.1 r.2.2.1 r.2.2.2.2.2) := by
  refine gx_go (by decide +kernel) rfl ?_
  intro p e s m below meth c ls S hr hlk hnm E hP hD hl
  have hS : va_S (va_A (ww_Dc_takeExact g o o_number o_number_limbs o_chunks o_digits (.ref o_number) (.ref o_chunks) (.ref o_digits) o_size o_point (.ref o_number_limbs) o_number_size o_number_limbs_c o_chunks_c o_digits_c) s.heap.size) s.heap s.heap [] := va_S.rf
  have hl : lv_has ls 6 [(0, .ref o), (1, .long a1), (3, .int a2)] := hl
  have c_67 : ∀ (v5 : Int32) (o_number_sizeq : Int32) (o_number_limbs_cq : Nat → Int32) (o_chunks_cq : Nat → Int32) (o_sizeq : Int32) (o_pointq : Int32) (o_digits_cq : Nat → Int32) (ls : Array Slot) (H : Heap) (locs : List Loc), lv_has ls 6 [(0, .ref o), (5, .int v5)] → va_S (va_A (ww_Dc_takeExact g o o_number o_number_limbs o_chunks o_digits (.ref o_number) (.ref o_chunks) (.ref o_digits) o_size o_point (.ref o_number_limbs) o_number_size o_number_limbs_c o_chunks_c o_digits_c) s.heap.size) s.heap H locs → va_P D vwC (ww_Dc_takeExact g o o_number o_number_limbs o_chunks o_digits (.ref o_number) (.ref o_chunks) (.ref o_digits) o_sizeq o_pointq (.ref o_number_limbs) o_number_sizeq o_number_limbs_cq o_chunks_cq o_digits_cq) H → va_D (va_A (ww_Dc_takeExact g o o_number o_number_limbs o_chunks o_digits (.ref o_number) (.ref o_chunks) (.ref o_digits) o_size o_point (.ref o_number_limbs) o_number_size o_number_limbs_c o_chunks_c o_digits_c) s.heap.size) (ww_Dc_takeExact g o o_number o_number_limbs o_chunks o_digits (.ref o_number) (.ref o_chunks) (.ref o_digits) o_sizeq o_pointq (.ref o_number_limbs) o_number_sizeq o_number_limbs_cq o_chunks_cq o_digits_cq) → (f_Dc_takeExact_67 v5 o_number_sizeq o_number_limbs_cq o_chunks_cq o_sizeq o_pointq o_digits_cq) = some r → W p l e ({ frames := 3, cells := 0, slots := 0, locals := 69 } : Room) s m ([.ref o, .long a1, .int a2] : List Value).toArray below meth c H locs 0 0 (MQ below (gx_Qv D (ww_Dc_takeExact g o o_number o_number_limbs o_chunks o_digits (.ref o_number) (.ref o_chunks) (.ref o_digits) o_size o_point (.ref o_number_limbs) o_number_size o_number_limbs_c o_chunks_c o_digits_c) (ww_Dc_takeExact g o o_number o_number_limbs o_chunks o_digits (.ref o_number) (.ref o_chunks) (.ref o_digits) r.2.2.2.1 r.2.2.2.2.1 (.ref o_number_limbs) r.1 r.2.1 r.2.2.1 r.2.2.2.2.2) s.heap.size) ([.ref o, .long a1, .int a2] : List Value).toArray s 0 0 (va_A (ww_Dc_takeExact g o o_number o_number_limbs o_chunks o_digits (.ref o_number) (.ref o_chunks) (.ref o_digits) o_size o_point (.ref o_number_limbs) o_number_size o_number_limbs_c o_chunks_c o_digits_c) s.heap.size)) (F0 m 67 ls []) := by
    intro v5 o_number_sizeq o_number_limbs_cq o_chunks_cq o_sizeq o_pointq o_digits_cq ls H locs hl hS hP hD hf
    have hf : ((f_Dc_takeNumber o_chunks_cq o_sizeq o_number_sizeq o_number_limbs_cq o_digits_cq).bind fun u68 => (f_JMath_min v5 (0 : Int32)).bind fun u79 => some (u68.2.2.1, u68.2.2.2.1, u68.1, u68.2.1, u68.2.1 + u79, u68.2.2.2.2)) = some r := hf
    refine lv_aload_n S.1 S.2.1 d_Dc_takeExact_67 rfl (lv_at hl 0 rfl) ?_
    obtain ⟨u68, hc68, hf⟩ := gx_bnd hf
    refine gx_Vv (ws2 := (ww_Dc_takeExact g o o_number o_number_limbs o_chunks o_digits (.ref o_number) (.ref o_chunks) (.ref o_digits) u68.2.1 o_pointq (.ref o_number_limbs) u68.2.2.1 u68.2.2.2.1 u68.1 u68.2.2.2.2)) S E hS hP hD (c_Dc_takeNumber l z D g o o_chunks o_digits o_number o_number_limbs o_sizeq o_pointq o_chunks_cq o_digits_cq o_number_sizeq o_number_limbs_cq u68 hc68) cal_Dc_takeNumber wd_977 ws_33 wd_975 rfl [0, 3, 4, 1, 2] rfl rfl rfl (gx_rc E hP 0 rfl rfl) rfl hl.1 rfl d_Dc_takeExact_68 ⟨Nat.zero_le _, Nat.zero_le _⟩ rfl (fun H locs hS hP hD => ?_)
    refine lv_aload_n S.1 S.2.1 d_Dc_takeExact_71 rfl (lv_at hl 0 rfl) ?_
    refine lv_aload_n S.1 S.2.1 d_Dc_takeExact_72 rfl (lv_at hl 0 rfl) ?_
    refine gx_gf (v := .int u68.2.1) S E hP 0 rfl rfl i_Dc 3 rfl wd_211 ⟨rfl, rfl, rfl⟩ rfl d_Dc_takeExact_73 ?_
    refine lv_iload S.1 S.2.1 d_Dc_takeExact_76 (lv_at hl 1 rfl) ?_
    refine lv_iconst (v := 0) S.1 S.2.1 d_Dc_takeExact_78 (by decide) ?_
    obtain ⟨u79, hc79, hf⟩ := gx_bnd hf
    refine gx_Si (ws2 := (ww_Dc_takeExact g o o_number o_number_limbs o_chunks o_digits (.ref o_number) (.ref o_chunks) (.ref o_digits) u68.2.1 o_pointq (.ref o_number_limbs) u68.2.2.1 u68.2.2.2.1 u68.1 u68.2.2.2.2)) S E hS hP hD (c_JMath_min l z D g v5 (0 : Int32) u79 hc79) cal_JMath_min wd_419 wd_605 rfl [] rfl rfl rfl rfl hl.1 rfl d_Dc_takeExact_79 ⟨Nat.zero_le _, Nat.zero_le _⟩ rfl (fun H locs hS hP hD => ?_)
    refine lv_iadd S.1 S.2.1 d_Dc_takeExact_82 ?_
    refine gx_pf (v := .int (u68.2.1 + u79)) (ws2 := (ww_Dc_takeExact g o o_number o_number_limbs o_chunks o_digits (.ref o_number) (.ref o_chunks) (.ref o_digits) u68.2.1 (u68.2.1 + u79) (.ref o_number_limbs) u68.2.2.1 u68.2.2.2.1 u68.1 u68.2.2.2.2)) S E hS hP hD 0 rfl rfl i_Dc k_Dc n_Dc 4 rfl wd_213 ⟨rfl, rfl, rfl, rfl⟩ rfl rfl rfl d_Dc_takeExact_83 rfl (fun H locs hS hP hD => ?_)
    obtain rfl := Option.some.inj hf
    exact gx_rv S hr hlk hS hP hD d_Dc_takeExact_86
  have hf : (if a1 = (0 : Int64) then (some (o_number_size, o_number_limbs_c, o_chunks_c, (0 : Int32), (1 : Int32), o_digits_c)) else ((f_JLong_numberOfTrailingZeros a1).bind fun u18 => (f_Bg_set ((a1.toUInt64 >>> (u18.toInt64.toUInt64 &&& Int64.toUInt64 63)).toInt64) o_number_size o_number_limbs_c).bind fun u37 => if (a2 + u18) < 0 then ((f_Bg_timesFives (-(a2 + u18)) u37.1 u37.2).bind fun u64 => f_Dc_takeExact_67 (a2 + u18) u64.1 u64.2 o_chunks_c (0 : Int32) (1 : Int32) o_digits_c) else ((f_Bg_shiftLeft (a2 + u18) u37.1 u37.2).bind fun u51 => f_Dc_takeExact_67 (a2 + u18) u51.1 u51.2 o_chunks_c (0 : Int32) (1 : Int32) o_digits_c))) = some r := hf
  refine lv_aload_n S.1 S.2.1 d_Dc_takeExact_0 rfl (lv_at hl 0 rfl) ?_
  refine lv_iconst (v := 0) S.1 S.2.1 d_Dc_takeExact_1 (by decide) ?_
  refine gx_pf (v := .int (0 : Int32)) (ws2 := (ww_Dc_takeExact g o o_number o_number_limbs o_chunks o_digits (.ref o_number) (.ref o_chunks) (.ref o_digits) (0 : Int32) o_point (.ref o_number_limbs) o_number_size o_number_limbs_c o_chunks_c o_digits_c)) S E hS hP hD 0 rfl rfl i_Dc k_Dc n_Dc 3 rfl wd_211 ⟨rfl, rfl, rfl, rfl⟩ rfl rfl rfl d_Dc_takeExact_2 rfl (fun H locs hS hP hD => ?_)
  refine lv_aload_n S.1 S.2.1 d_Dc_takeExact_5 rfl (lv_at hl 0 rfl) ?_
  refine lv_iconst (v := 1) S.1 S.2.1 d_Dc_takeExact_6 (by decide) ?_
  refine gx_pf (v := .int (1 : Int32)) (ws2 := (ww_Dc_takeExact g o o_number o_number_limbs o_chunks o_digits (.ref o_number) (.ref o_chunks) (.ref o_digits) (0 : Int32) (1 : Int32) (.ref o_number_limbs) o_number_size o_number_limbs_c o_chunks_c o_digits_c)) S E hS hP hD 0 rfl rfl i_Dc k_Dc n_Dc 4 rfl wd_213 ⟨rfl, rfl, rfl, rfl⟩ rfl rfl rfl d_Dc_takeExact_7 rfl (fun H locs hS hP hD => ?_)
  refine lv_lload_n S.1 S.2.1 d_Dc_takeExact_10 rfl (lv_at hl 1 rfl) ?_
  refine lv_lconst (v := 0) S.1 S.2.1 d_Dc_takeExact_11 (by decide) ?_
  refine W.lcmp S.1 S.2.1 d_Dc_takeExact_12 ?_
  refine lv_if_ne (tgt := 17) S.1 S.2.1 d_Dc_takeExact_13 (by decide) (fun h => ?_) (fun h => ?_)
  ·
    have h : ¬ a1 = (0 : Int64) := fun q => h ((lg_cmp_eq _ _).mpr q)
    have hf := gx_ifn h hf
    refine lv_lload_n S.1 S.2.1 d_Dc_takeExact_17 rfl (lv_at hl 1 rfl) ?_
    obtain ⟨u18, hc18, hf⟩ := gx_bnd hf
    refine gx_Si (ws2 := (ww_Dc_takeExact g o o_number o_number_limbs o_chunks o_digits (.ref o_number) (.ref o_chunks) (.ref o_digits) (0 : Int32) (1 : Int32) (.ref o_number_limbs) o_number_size o_number_limbs_c o_chunks_c o_digits_c)) S E hS hP hD (c_JLong_numberOfTrailingZeros l z D g a1 u18 hc18) cal_JLong_numberOfTrailingZeros wd_939 wd_971 rfl [] rfl rfl rfl rfl hl.1 rfl d_Dc_takeExact_18 ⟨Nat.zero_le _, Nat.zero_le _⟩ rfl (fun H locs hS hP hD => ?_)
    refine lv_istore (lv' := [(4, .int u18), (0, .ref o), (1, .long a1), (3, .int a2)]) S.1 S.2.1 d_Dc_takeExact_21 hl (by decide) rfl (fun ls hl => ?_)
    refine lv_iload_n S.1 S.2.1 d_Dc_takeExact_23 rfl (lv_at hl 3 rfl) ?_
    refine lv_iload S.1 S.2.1 d_Dc_takeExact_24 (lv_at hl 0 rfl) ?_
    refine lv_iadd S.1 S.2.1 d_Dc_takeExact_26 ?_
    refine lv_istore (lv' := [(5, .int (a2 + u18)), (4, .int u18), (0, .ref o), (1, .long a1), (3, .int a2)]) S.1 S.2.1 d_Dc_takeExact_27 hl (by decide) rfl (fun ls hl => ?_)
    refine lv_aload_n S.1 S.2.1 d_Dc_takeExact_29 rfl (lv_at hl 2 rfl) ?_
    refine gx_gf (v := .ref o_number) S E hP 0 rfl rfl i_Dc 0 rfl wd_208 ⟨rfl, rfl, rfl⟩ rfl d_Dc_takeExact_30 ?_
    refine lv_lload_n S.1 S.2.1 d_Dc_takeExact_33 rfl (lv_at hl 3 rfl) ?_
    refine lv_iload S.1 S.2.1 d_Dc_takeExact_34 (lv_at hl 1 rfl) ?_
    refine lv_lushr S.1 S.2.1 d_Dc_takeExact_36 rfl ?_
    obtain ⟨u37, hc37, hf⟩ := gx_bnd hf
    refine gx_Vv (ws2 := (ww_Dc_takeExact g o o_number o_number_limbs o_chunks o_digits (.ref o_number) (.ref o_chunks) (.ref o_digits) (0 : Int32) (1 : Int32) (.ref o_number_limbs) u37.1 u37.2 o_chunks_c o_digits_c)) S E hS hP hD (c_Bg_set l z D g o_number o_number_limbs o_number_size o_number_limbs_c ((a1.toUInt64 >>> (u18.toInt64.toUInt64 &&& Int64.toUInt64 63)).toInt64) u37 hc37) cal_Bg_set wd_503 wd_504 wd_972 rfl [1, 2] rfl rfl rfl (gx_rc E hP 1 rfl rfl) rfl hl.1 rfl d_Dc_takeExact_37 ⟨Nat.zero_le _, Nat.zero_le _⟩ rfl (fun H locs hS hP hD => ?_)
    refine lv_iload S.1 S.2.1 d_Dc_takeExact_40 (lv_at hl 0 rfl) ?_
    refine lv_if_lt (tgt := 57) S.1 S.2.1 d_Dc_takeExact_42 (by decide) (fun h => ?_) (fun h => ?_)
    ·
      have hf := gx_ifp h hf
      refine lv_aload_n S.1 S.2.1 d_Dc_takeExact_57 rfl (lv_at hl 2 rfl) ?_
      refine gx_gf (v := .ref o_number) S E hP 0 rfl rfl i_Dc 0 rfl wd_208 ⟨rfl, rfl, rfl⟩ rfl d_Dc_takeExact_58 ?_
      refine lv_iload S.1 S.2.1 d_Dc_takeExact_61 (lv_at hl 0 rfl) ?_
      refine lv_ineg S.1 S.2.1 d_Dc_takeExact_63 ?_
      obtain ⟨u64, hc64, hf⟩ := gx_bnd hf
      refine gx_Vv (ws2 := (ww_Dc_takeExact g o o_number o_number_limbs o_chunks o_digits (.ref o_number) (.ref o_chunks) (.ref o_digits) (0 : Int32) (1 : Int32) (.ref o_number_limbs) u64.1 u64.2 o_chunks_c o_digits_c)) S E hS hP hD (c_Bg_timesFives l z D g o_number o_number_limbs u37.1 u37.2 (-(a2 + u18)) u64 hc64) cal_Bg_timesFives wd_511 wd_512 wd_974 rfl [1, 2] rfl rfl rfl (gx_rc E hP 1 rfl rfl) rfl hl.1 rfl d_Dc_takeExact_64 ⟨Nat.zero_le _, Nat.zero_le _⟩ rfl (fun H locs hS hP hD => ?_)
      exact c_67 (a2 + u18) u64.1 u64.2 o_chunks_c (0 : Int32) (1 : Int32) o_digits_c ls _ _ (lv_sub hl [2, 0] rfl) hS hP hD hf
    ·
      have hf := gx_ifn h hf
      refine lv_aload_n S.1 S.2.1 d_Dc_takeExact_45 rfl (lv_at hl 2 rfl) ?_
      refine gx_gf (v := .ref o_number) S E hP 0 rfl rfl i_Dc 0 rfl wd_208 ⟨rfl, rfl, rfl⟩ rfl d_Dc_takeExact_46 ?_
      refine lv_iload S.1 S.2.1 d_Dc_takeExact_49 (lv_at hl 0 rfl) ?_
      obtain ⟨u51, hc51, hf⟩ := gx_bnd hf
      refine gx_Vv (ws2 := (ww_Dc_takeExact g o o_number o_number_limbs o_chunks o_digits (.ref o_number) (.ref o_chunks) (.ref o_digits) (0 : Int32) (1 : Int32) (.ref o_number_limbs) u51.1 u51.2 o_chunks_c o_digits_c)) S E hS hP hD (c_Bg_shiftLeft l z D g o_number o_number_limbs u37.1 u37.2 (a2 + u18) u51 hc51) cal_Bg_shiftLeft wd_522 wd_523 wd_973 rfl [1, 2] rfl rfl rfl (gx_rc E hP 1 rfl rfl) rfl hl.1 rfl d_Dc_takeExact_51 ⟨Nat.zero_le _, Nat.zero_le _⟩ rfl (fun H locs hS hP hD => ?_)
      refine lv_goto (tgt := 67) S.1 S.2.1 d_Dc_takeExact_54 (by decide) ?_
      exact c_67 (a2 + u18) u51.1 u51.2 o_chunks_c (0 : Int32) (1 : Int32) o_digits_c ls _ _ (lv_sub hl [2, 0] rfl) hS hP hD hf
  ·
    have h : a1 = (0 : Int64) := (lg_cmp_eq _ _).mp h
    have hf := gx_ifp h hf
    obtain rfl := Option.some.inj hf
    exact gx_rv S hr hlk hS hP hD d_Dc_takeExact_16
theorem d_Dc_dropZeros_0 : decode b_Dc_dropZeros 0 = .ok (.aload_n 0, 1) := by decide +kernel
theorem d_Dc_dropZeros_1 : decode b_Dc_dropZeros 1 = .ok (.getfield 24, 3) := by decide +kernel
theorem d_Dc_dropZeros_4 : decode b_Dc_dropZeros 4 = .ok (.istore_n 1, 1) := by decide +kernel
theorem d_Dc_dropZeros_5 : decode b_Dc_dropZeros 5 = .ok (.iload_n 1, 1) := by decide +kernel
theorem d_Dc_dropZeros_6 : decode b_Dc_dropZeros 6 = .ok (.ifCond .le 27, 3) := by decide +kernel
theorem d_Dc_dropZeros_9 : decode b_Dc_dropZeros 9 = .ok (.aload_n 0, 1) := by decide +kernel
theorem d_Dc_dropZeros_10 : decode b_Dc_dropZeros 10 = .ok (.getfield 20, 3) := by decide +kernel
theorem d_Dc_dropZeros_13 : decode b_Dc_dropZeros 13 = .ok (.iload_n 1, 1) := by decide +kernel
theorem d_Dc_dropZeros_14 : decode b_Dc_dropZeros 14 = .ok (.iconst 1, 1) := by decide +kernel
theorem d_Dc_dropZeros_15 : decode b_Dc_dropZeros 15 = .ok (.isub, 1) := by decide +kernel
theorem d_Dc_dropZeros_16 : decode b_Dc_dropZeros 16 = .ok (.baload, 1) := by decide +kernel
theorem d_Dc_dropZeros_17 : decode b_Dc_dropZeros 17 = .ok (.ifCond .ne 16, 3) := by decide +kernel
theorem d_Dc_dropZeros_20 : decode b_Dc_dropZeros 20 = .ok (.aload_n 0, 1) := by decide +kernel
theorem d_Dc_dropZeros_21 : decode b_Dc_dropZeros 21 = .ok (.iload_n 1, 1) := by decide +kernel
theorem d_Dc_dropZeros_22 : decode b_Dc_dropZeros 22 = .ok (.iconst 1, 1) := by decide +kernel
theorem d_Dc_dropZeros_23 : decode b_Dc_dropZeros 23 = .ok (.isub, 1) := by decide +kernel
theorem d_Dc_dropZeros_24 : decode b_Dc_dropZeros 24 = .ok (.putfield 24, 3) := by decide +kernel
theorem d_Dc_dropZeros_27 : decode b_Dc_dropZeros 27 = .ok (.iinc 1 (-1), 3) := by decide +kernel
theorem d_Dc_dropZeros_30 : decode b_Dc_dropZeros 30 = .ok (.goto (-25), 3) := by decide +kernel
theorem d_Dc_dropZeros_33 : decode b_Dc_dropZeros 33 = .ok (.return_, 1) := by decide +kernel
theorem cal_Dc_dropZeros : gx_cal y_Dc_dropZeros b_Dc_dropZeros 2 none 0 := ⟨wd_586, wd_10, by decide +kernel⟩
def ww_Dc_dropZeros (g : Nat → ClassId) (o : Nat) (o_digits : Nat) (x_o_number : Value) (x_o_chunks : Value) (x_o_digits : Value) (x_o_size : Int32) (x_o_point : Int32) (y_o_digits : Nat → Int32) : va_W := [(o, .inr (4, [x_o_number, x_o_chunks, x_o_digits, .int x_o_size, .int x_o_point])), (o_digits, .inl (g 1, 792, .inl y_o_digits))]
def f_Dc_dropZeros_5 : Nat → Int32 → Int32 → (Nat → Int32) → Option (Int32)
  | 0, _, _, _ => none
  | n + 1, v1, o_sizeq, o_digits_c => if v1 ≤ 0 then (some o_sizeq) else (if gx_ok (v1 - (1 : Int32)) 792 = true then if (o_digits_c (v1 - (1 : Int32)).toNatClampNeg) = 0 then (f_Dc_dropZeros_5 n (v1 + (-1)) (v1 - (1 : Int32)) o_digits_c) else (some o_sizeq) else none)
def f_Dc_dropZeros (o_size : Int32) (o_digits_c : Nat → Int32) : Option (Int32) := f_Dc_dropZeros_5 gx_fu o_size o_size o_digits_c
set_option maxHeartbeats 4000000 in
set_option maxRecDepth 100000 in
theorem c_Dc_dropZeros (l : Launch) (z : State) (D : va_G) (g : Nat → ClassId) (o : Nat) (o_digits : Nat) (o_number_v : Value) (o_chunks_v : Value) (o_size : Int32) (o_point : Int32) (o_digits_c : Nat → Int32) (r : Int32) (hf : f_Dc_dropZeros o_size o_digits_c = some r) : gx_Mv l z D g y_Dc_dropZeros b_Dc_dropZeros 2 ({ frames := 0, cells := 0, slots := 0, locals := 0 } : Room) [.ref o] (ww_Dc_dropZeros g o o_digits o_number_v o_chunks_v (.ref o_digits) o_size o_point o_digits_c) (ww_Dc_dropZeros g o o_digits o_number_v o_chunks_v (.ref o_digits) r o_point o_digits_c) := by
  refine gx_go (by decide +kernel) rfl ?_
  intro p e s m below meth c ls S hr hlk hnm E hP hD hl
  have hS : va_S (va_A (ww_Dc_dropZeros g o o_digits o_number_v o_chunks_v (.ref o_digits) o_size o_point o_digits_c) s.heap.size) s.heap s.heap [] := va_S.rf
  have hl : lv_has ls 2 [(0, .ref o)] := hl
  have c_5 : ∀ n : Nat, ∀ (v1 : Int32) (o_sizeq : Int32) (ls : Array Slot) (H : Heap) (locs : List Loc), lv_has ls 2 [(0, .ref o), (1, .int v1)] → va_S (va_A (ww_Dc_dropZeros g o o_digits o_number_v o_chunks_v (.ref o_digits) o_size o_point o_digits_c) s.heap.size) s.heap H locs → va_P D vwC (ww_Dc_dropZeros g o o_digits o_number_v o_chunks_v (.ref o_digits) o_sizeq o_point o_digits_c) H → va_D (va_A (ww_Dc_dropZeros g o o_digits o_number_v o_chunks_v (.ref o_digits) o_size o_point o_digits_c) s.heap.size) (ww_Dc_dropZeros g o o_digits o_number_v o_chunks_v (.ref o_digits) o_sizeq o_point o_digits_c) → (f_Dc_dropZeros_5 n v1 o_sizeq o_digits_c) = some r → W p l e ({ frames := 0, cells := 0, slots := 0, locals := 0 } : Room) s m ([.ref o] : List Value).toArray below meth c H locs 0 0 (MQ below (gx_Qv D (ww_Dc_dropZeros g o o_digits o_number_v o_chunks_v (.ref o_digits) o_size o_point o_digits_c) (ww_Dc_dropZeros g o o_digits o_number_v o_chunks_v (.ref o_digits) r o_point o_digits_c) s.heap.size) ([.ref o] : List Value).toArray s 0 0 (va_A (ww_Dc_dropZeros g o o_digits o_number_v o_chunks_v (.ref o_digits) o_size o_point o_digits_c) s.heap.size)) (F0 m 5 ls []) := by
    intro n
    induction n with
    | zero => intro v1 o_sizeq ls H locs hl hS hP hD hf; cases hf
    | succ n ih =>
      intro v1 o_sizeq ls H locs hl hS hP hD hf
      have hf : (if v1 ≤ 0 then (some o_sizeq) else (if gx_ok (v1 - (1 : Int32)) 792 = true then if (o_digits_c (v1 - (1 : Int32)).toNatClampNeg) = 0 then (f_Dc_dropZeros_5 n (v1 + (-1)) (v1 - (1 : Int32)) o_digits_c) else (some o_sizeq) else none)) = some r := hf
      refine lv_iload_n S.1 S.2.1 d_Dc_dropZeros_5 rfl (lv_at hl 1 rfl) ?_
      refine lv_if_le (tgt := 33) S.1 S.2.1 d_Dc_dropZeros_6 (by decide) (fun h => ?_) (fun h => ?_)
      ·
        have hf := gx_ifp h hf
        obtain rfl := Option.some.inj hf
        exact gx_rv S hr hlk hS hP hD d_Dc_dropZeros_33
      ·
        have hf := gx_ifn h hf
        refine lv_aload_n S.1 S.2.1 d_Dc_dropZeros_9 rfl (lv_at hl 0 rfl) ?_
        refine gx_gf (v := .ref o_digits) S E hP 0 rfl rfl i_Dc 2 rfl wd_210 ⟨rfl, rfl, rfl⟩ rfl d_Dc_dropZeros_10 ?_
        refine lv_iload_n S.1 S.2.1 d_Dc_dropZeros_13 rfl (lv_at hl 1 rfl) ?_
        refine lv_iconst (v := 1) S.1 S.2.1 d_Dc_dropZeros_14 (by decide) ?_
        refine lv_isub S.1 S.2.1 d_Dc_dropZeros_15 ?_
        obtain ⟨hin, hf⟩ := gx_chk hf
        refine va_bald S.1 S.2.1 E.1.1 hP 1 1 rfl rfl (gx_okv hin) d_Dc_dropZeros_16 ?_
        refine lv_if_ne (tgt := 33) S.1 S.2.1 d_Dc_dropZeros_17 (by decide) (fun h => ?_) (fun h => ?_)
        ·
          have hf := gx_ifn h hf
          obtain rfl := Option.some.inj hf
          exact gx_rv S hr hlk hS hP hD d_Dc_dropZeros_33
        ·
          have hf := gx_ifp h hf
          refine lv_aload_n S.1 S.2.1 d_Dc_dropZeros_20 rfl (lv_at hl 0 rfl) ?_
          refine lv_iload_n S.1 S.2.1 d_Dc_dropZeros_21 rfl (lv_at hl 1 rfl) ?_
          refine lv_iconst (v := 1) S.1 S.2.1 d_Dc_dropZeros_22 (by decide) ?_
          refine lv_isub S.1 S.2.1 d_Dc_dropZeros_23 ?_
          refine gx_pf (v := .int (v1 - (1 : Int32))) (ws2 := (ww_Dc_dropZeros g o o_digits o_number_v o_chunks_v (.ref o_digits) (v1 - (1 : Int32)) o_point o_digits_c)) S E hS hP hD 0 rfl rfl i_Dc k_Dc n_Dc 3 rfl wd_211 ⟨rfl, rfl, rfl, rfl⟩ rfl rfl rfl d_Dc_dropZeros_24 rfl (fun H locs hS hP hD => ?_)
          refine lv_iinc (v := v1 + (-1)) (lv' := [(1, .int (v1 + (-1))), (0, .ref o)]) S.1 S.2.1 d_Dc_dropZeros_27 hl (k := 1) rfl rfl (by decide) rfl (fun ls hl => ?_)
          refine lv_goto (tgt := 5) S.1 S.2.1 d_Dc_dropZeros_30 (by decide) ?_
          exact ih (v1 + (-1)) (v1 - (1 : Int32)) ls _ _ (lv_sub hl [1, 0] rfl) hS hP hD hf
  have hf : (f_Dc_dropZeros_5 gx_fu o_size o_size o_digits_c) = some r := hf
  refine lv_aload_n S.1 S.2.1 d_Dc_dropZeros_0 rfl (lv_at hl 0 rfl) ?_
  refine gx_gf (v := .int o_size) S E hP 0 rfl rfl i_Dc 3 rfl wd_211 ⟨rfl, rfl, rfl⟩ rfl d_Dc_dropZeros_1 ?_
  refine lv_istore_n (lv' := [(1, .int o_size), (0, .ref o)]) S.1 S.2.1 d_Dc_dropZeros_4 rfl hl (by decide) rfl (fun ls hl => ?_)
  exact c_5 gx_fu o_size o_size ls _ _ (lv_sub hl [1, 0] rfl) hS hP hD hf
theorem d_Dc_addOneToLast_0 : decode b_Dc_addOneToLast 0 = .ok (.aload_n 0, 1) := by decide +kernel
theorem d_Dc_addOneToLast_1 : decode b_Dc_addOneToLast 1 = .ok (.getfield 24, 3) := by decide +kernel
theorem d_Dc_addOneToLast_4 : decode b_Dc_addOneToLast 4 = .ok (.istore_n 1, 1) := by decide +kernel
theorem d_Dc_addOneToLast_5 : decode b_Dc_addOneToLast 5 = .ok (.iload_n 1, 1) := by decide +kernel
theorem d_Dc_addOneToLast_6 : decode b_Dc_addOneToLast 6 = .ok (.ifCond .le 29, 3) := by decide +kernel
theorem d_Dc_addOneToLast_9 : decode b_Dc_addOneToLast 9 = .ok (.aload_n 0, 1) := by decide +kernel
theorem d_Dc_addOneToLast_10 : decode b_Dc_addOneToLast 10 = .ok (.getfield 20, 3) := by decide +kernel
theorem d_Dc_addOneToLast_13 : decode b_Dc_addOneToLast 13 = .ok (.iload_n 1, 1) := by decide +kernel
theorem d_Dc_addOneToLast_14 : decode b_Dc_addOneToLast 14 = .ok (.iconst 1, 1) := by decide +kernel
theorem d_Dc_addOneToLast_15 : decode b_Dc_addOneToLast 15 = .ok (.isub, 1) := by decide +kernel
theorem d_Dc_addOneToLast_16 : decode b_Dc_addOneToLast 16 = .ok (.baload, 1) := by decide +kernel
theorem d_Dc_addOneToLast_17 : decode b_Dc_addOneToLast 17 = .ok (.bipush 9, 2) := by decide +kernel
theorem d_Dc_addOneToLast_19 : decode b_Dc_addOneToLast 19 = .ok (.if_icmp .ne 16, 3) := by decide +kernel
theorem d_Dc_addOneToLast_22 : decode b_Dc_addOneToLast 22 = .ok (.aload_n 0, 1) := by decide +kernel
theorem d_Dc_addOneToLast_23 : decode b_Dc_addOneToLast 23 = .ok (.iload_n 1, 1) := by decide +kernel
theorem d_Dc_addOneToLast_24 : decode b_Dc_addOneToLast 24 = .ok (.iconst 1, 1) := by decide +kernel
theorem d_Dc_addOneToLast_25 : decode b_Dc_addOneToLast 25 = .ok (.isub, 1) := by decide +kernel
theorem d_Dc_addOneToLast_26 : decode b_Dc_addOneToLast 26 = .ok (.putfield 24, 3) := by decide +kernel
theorem d_Dc_addOneToLast_29 : decode b_Dc_addOneToLast 29 = .ok (.iinc 1 (-1), 3) := by decide +kernel
theorem d_Dc_addOneToLast_32 : decode b_Dc_addOneToLast 32 = .ok (.goto (-27), 3) := by decide +kernel
theorem d_Dc_addOneToLast_35 : decode b_Dc_addOneToLast 35 = .ok (.aload_n 0, 1) := by decide +kernel
theorem d_Dc_addOneToLast_36 : decode b_Dc_addOneToLast 36 = .ok (.getfield 24, 3) := by decide +kernel
theorem d_Dc_addOneToLast_39 : decode b_Dc_addOneToLast 39 = .ok (.ifCond .le 22, 3) := by decide +kernel
theorem d_Dc_addOneToLast_42 : decode b_Dc_addOneToLast 42 = .ok (.aload_n 0, 1) := by decide +kernel
theorem d_Dc_addOneToLast_43 : decode b_Dc_addOneToLast 43 = .ok (.getfield 20, 3) := by decide +kernel
theorem d_Dc_addOneToLast_46 : decode b_Dc_addOneToLast 46 = .ok (.aload_n 0, 1) := by decide +kernel
theorem d_Dc_addOneToLast_47 : decode b_Dc_addOneToLast 47 = .ok (.getfield 24, 3) := by decide +kernel
theorem d_Dc_addOneToLast_50 : decode b_Dc_addOneToLast 50 = .ok (.iconst 1, 1) := by decide +kernel
theorem d_Dc_addOneToLast_51 : decode b_Dc_addOneToLast 51 = .ok (.isub, 1) := by decide +kernel
theorem d_Dc_addOneToLast_52 : decode b_Dc_addOneToLast 52 = .ok (.dup2, 1) := by decide +kernel
theorem d_Dc_addOneToLast_53 : decode b_Dc_addOneToLast 53 = .ok (.baload, 1) := by decide +kernel
theorem d_Dc_addOneToLast_54 : decode b_Dc_addOneToLast 54 = .ok (.iconst 1, 1) := by decide +kernel
theorem d_Dc_addOneToLast_55 : decode b_Dc_addOneToLast 55 = .ok (.iadd, 1) := by decide +kernel
theorem d_Dc_addOneToLast_56 : decode b_Dc_addOneToLast 56 = .ok (.i2b, 1) := by decide +kernel
theorem d_Dc_addOneToLast_57 : decode b_Dc_addOneToLast 57 = .ok (.bastore, 1) := by decide +kernel
theorem d_Dc_addOneToLast_58 : decode b_Dc_addOneToLast 58 = .ok (.goto 25, 3) := by decide +kernel
theorem d_Dc_addOneToLast_61 : decode b_Dc_addOneToLast 61 = .ok (.aload_n 0, 1) := by decide +kernel
theorem d_Dc_addOneToLast_62 : decode b_Dc_addOneToLast 62 = .ok (.getfield 20, 3) := by decide +kernel
theorem d_Dc_addOneToLast_65 : decode b_Dc_addOneToLast 65 = .ok (.iconst 0, 1) := by decide +kernel
theorem d_Dc_addOneToLast_66 : decode b_Dc_addOneToLast 66 = .ok (.iconst 1, 1) := by decide +kernel
theorem d_Dc_addOneToLast_67 : decode b_Dc_addOneToLast 67 = .ok (.bastore, 1) := by decide +kernel
theorem d_Dc_addOneToLast_68 : decode b_Dc_addOneToLast 68 = .ok (.aload_n 0, 1) := by decide +kernel
theorem d_Dc_addOneToLast_69 : decode b_Dc_addOneToLast 69 = .ok (.iconst 1, 1) := by decide +kernel
theorem d_Dc_addOneToLast_70 : decode b_Dc_addOneToLast 70 = .ok (.putfield 24, 3) := by decide +kernel
theorem d_Dc_addOneToLast_73 : decode b_Dc_addOneToLast 73 = .ok (.aload_n 0, 1) := by decide +kernel
theorem d_Dc_addOneToLast_74 : decode b_Dc_addOneToLast 74 = .ok (.dup, 1) := by decide +kernel
theorem d_Dc_addOneToLast_75 : decode b_Dc_addOneToLast 75 = .ok (.getfield 28, 3) := by decide +kernel
theorem d_Dc_addOneToLast_78 : decode b_Dc_addOneToLast 78 = .ok (.iconst 1, 1) := by decide +kernel
theorem d_Dc_addOneToLast_79 : decode b_Dc_addOneToLast 79 = .ok (.iadd, 1) := by decide +kernel
theorem d_Dc_addOneToLast_80 : decode b_Dc_addOneToLast 80 = .ok (.putfield 28, 3) := by decide +kernel
theorem d_Dc_addOneToLast_83 : decode b_Dc_addOneToLast 83 = .ok (.return_, 1) := by decide +kernel
theorem cal_Dc_addOneToLast : gx_cal y_Dc_addOneToLast b_Dc_addOneToLast 2 none 0 := ⟨wd_993, wd_10, by decide +kernel⟩
def ww_Dc_addOneToLast (g : Nat → ClassId) (o : Nat) (o_digits : Nat) (x_o_number : Value) (x_o_chunks : Value) (x_o_digits : Value) (x_o_size : Int32) (x_o_point : Int32) (y_o_digits : Nat → Int32) : va_W := [(o, .inr (4, [x_o_number, x_o_chunks, x_o_digits, .int x_o_size, .int x_o_point])), (o_digits, .inl (g 1, 792, .inl y_o_digits))]
def f_Dc_addOneToLast_35 (o_sizeq : Int32) (o_pointq : Int32) (o_digits_cq : Nat → Int32) : Option (Int32 × Int32 × (Nat → Int32)) := if o_sizeq ≤ 0 then (if gx_ok (0 : Int32) 792 = true then some ((1 : Int32), o_pointq + (1 : Int32), upd o_digits_cq (0 : Int32).toNatClampNeg (vp_nar .byte (1 : Int32))) else none) else (if gx_ok (o_sizeq - (1 : Int32)) 792 = true then if gx_ok (o_sizeq - (1 : Int32)) 792 = true then some (o_sizeq, o_pointq, upd o_digits_cq (o_sizeq - (1 : Int32)).toNatClampNeg (vp_nar .byte (((o_digits_cq (o_sizeq - (1 : Int32)).toNatClampNeg) + (1 : Int32)).toInt8.toInt32))) else none else none)
def f_Dc_addOneToLast_5 : Nat → Int32 → Int32 → Int32 → (Nat → Int32) → Option (Int32 × Int32 × (Nat → Int32))
  | 0, _, _, _, _ => none
  | n + 1, v1, o_sizeq, o_pointq, o_digits_cq => if v1 ≤ 0 then (f_Dc_addOneToLast_35 o_sizeq o_pointq o_digits_cq) else (if gx_ok (v1 - (1 : Int32)) 792 = true then if (o_digits_cq (v1 - (1 : Int32)).toNatClampNeg) = (9 : Int32) then (f_Dc_addOneToLast_5 n (v1 + (-1)) (v1 - (1 : Int32)) o_pointq o_digits_cq) else (f_Dc_addOneToLast_35 o_sizeq o_pointq o_digits_cq) else none)
def f_Dc_addOneToLast (o_size : Int32) (o_point : Int32) (o_digits_c : Nat → Int32) : Option (Int32 × Int32 × (Nat → Int32)) := f_Dc_addOneToLast_5 gx_fu o_size o_size o_point o_digits_c
set_option maxHeartbeats 4000000 in
set_option maxRecDepth 100000 in
theorem c_Dc_addOneToLast (l : Launch) (z : State) (D : va_G) (g : Nat → ClassId) (o : Nat) (o_digits : Nat) (o_number_v : Value) (o_chunks_v : Value) (o_size : Int32) (o_point : Int32) (o_digits_c : Nat → Int32) (r : Int32 × Int32 × (Nat → Int32)) (hf : f_Dc_addOneToLast o_size o_point o_digits_c = some r) : gx_Mv l z D g y_Dc_addOneToLast b_Dc_addOneToLast 2 ({ frames := 0, cells := 0, slots := 0, locals := 0 } : Room) [.ref o] (ww_Dc_addOneToLast g o o_digits o_number_v o_chunks_v (.ref o_digits) o_size o_point o_digits_c) (ww_Dc_addOneToLast g o o_digits o_number_v o_chunks_v (.ref o_digits) r.1 r.2.1 r.2.2) := by
  refine gx_go (by decide +kernel) rfl ?_
  intro p e s m below meth c ls S hr hlk hnm E hP hD hl
  have hS : va_S (va_A (ww_Dc_addOneToLast g o o_digits o_number_v o_chunks_v (.ref o_digits) o_size o_point o_digits_c) s.heap.size) s.heap s.heap [] := va_S.rf
  have hl : lv_has ls 2 [(0, .ref o)] := hl
  have c_35 : ∀ (o_sizeq : Int32) (o_pointq : Int32) (o_digits_cq : Nat → Int32) (ls : Array Slot) (H : Heap) (locs : List Loc), lv_has ls 2 [(0, .ref o)] → va_S (va_A (ww_Dc_addOneToLast g o o_digits o_number_v o_chunks_v (.ref o_digits) o_size o_point o_digits_c) s.heap.size) s.heap H locs → va_P D vwC (ww_Dc_addOneToLast g o o_digits o_number_v o_chunks_v (.ref o_digits) o_sizeq o_pointq o_digits_cq) H → va_D (va_A (ww_Dc_addOneToLast g o o_digits o_number_v o_chunks_v (.ref o_digits) o_size o_point o_digits_c) s.heap.size) (ww_Dc_addOneToLast g o o_digits o_number_v o_chunks_v (.ref o_digits) o_sizeq o_pointq o_digits_cq) → (f_Dc_addOneToLast_35 o_sizeq o_pointq o_digits_cq) = some r → W p l e ({ frames := 0, cells := 0, slots := 0, locals := 0 } : Room) s m ([.ref o] : List Value).toArray below meth c H locs 0 0 (MQ below (gx_Qv D (ww_Dc_addOneToLast g o o_digits o_number_v o_chunks_v (.ref o_digits) o_size o_point o_digits_c) (ww_Dc_addOneToLast g o o_digits o_number_v o_chunks_v (.ref o_digits) r.1 r.2.1 r.2.2) s.heap.size) ([.ref o] : List Value).toArray s 0 0 (va_A (ww_Dc_addOneToLast g o o_digits o_number_v o_chunks_v (.ref o_digits) o_size o_point o_digits_c) s.heap.size)) (F0 m 35 ls []) := by
    intro o_sizeq o_pointq o_digits_cq ls H locs hl hS hP hD hf
    have hf : (if o_sizeq ≤ 0 then (if gx_ok (0 : Int32) 792 = true then some ((1 : Int32), o_pointq + (1 : Int32), upd o_digits_cq (0 : Int32).toNatClampNeg (vp_nar .byte (1 : Int32))) else none) else (if gx_ok (o_sizeq - (1 : Int32)) 792 = true then if gx_ok (o_sizeq - (1 : Int32)) 792 = true then some (o_sizeq, o_pointq, upd o_digits_cq (o_sizeq - (1 : Int32)).toNatClampNeg (vp_nar .byte (((o_digits_cq (o_sizeq - (1 : Int32)).toNatClampNeg) + (1 : Int32)).toInt8.toInt32))) else none else none)) = some r := hf
    refine lv_aload_n S.1 S.2.1 d_Dc_addOneToLast_35 rfl (lv_at hl 0 rfl) ?_
    refine gx_gf (v := .int o_sizeq) S E hP 0 rfl rfl i_Dc 3 rfl wd_211 ⟨rfl, rfl, rfl⟩ rfl d_Dc_addOneToLast_36 ?_
    refine lv_if_le (tgt := 61) S.1 S.2.1 d_Dc_addOneToLast_39 (by decide) (fun h => ?_) (fun h => ?_)
    ·
      have hf := gx_ifp h hf
      refine lv_aload_n S.1 S.2.1 d_Dc_addOneToLast_61 rfl (lv_at hl 0 rfl) ?_
      refine gx_gf (v := .ref o_digits) S E hP 0 rfl rfl i_Dc 2 rfl wd_210 ⟨rfl, rfl, rfl⟩ rfl d_Dc_addOneToLast_62 ?_
      refine lv_iconst (v := 0) S.1 S.2.1 d_Dc_addOneToLast_65 (by decide) ?_
      refine lv_iconst (v := 1) S.1 S.2.1 d_Dc_addOneToLast_66 (by decide) ?_
      obtain ⟨hin, hf⟩ := gx_chk hf
      refine gx_bast (ws2 := (ww_Dc_addOneToLast g o o_digits o_number_v o_chunks_v (.ref o_digits) o_sizeq o_pointq (upd o_digits_cq (0 : Int32).toNatClampNeg (vp_nar .byte (1 : Int32))))) S E hS hP hD 1 1 rfl rfl hin d_Dc_addOneToLast_67 rfl (fun H locs hS hP hD => ?_)
      refine lv_aload_n S.1 S.2.1 d_Dc_addOneToLast_68 rfl (lv_at hl 0 rfl) ?_
      refine lv_iconst (v := 1) S.1 S.2.1 d_Dc_addOneToLast_69 (by decide) ?_
      refine gx_pf (v := .int (1 : Int32)) (ws2 := (ww_Dc_addOneToLast g o o_digits o_number_v o_chunks_v (.ref o_digits) (1 : Int32) o_pointq (upd o_digits_cq (0 : Int32).toNatClampNeg (vp_nar .byte (1 : Int32))))) S E hS hP hD 0 rfl rfl i_Dc k_Dc n_Dc 3 rfl wd_211 ⟨rfl, rfl, rfl, rfl⟩ rfl rfl rfl d_Dc_addOneToLast_70 rfl (fun H locs hS hP hD => ?_)
      refine lv_aload_n S.1 S.2.1 d_Dc_addOneToLast_73 rfl (lv_at hl 0 rfl) ?_
      refine lv_dup S.1 S.2.1 d_Dc_addOneToLast_74 rfl ?_
      refine gx_gf (v := .int o_pointq) S E hP 0 rfl rfl i_Dc 4 rfl wd_213 ⟨rfl, rfl, rfl⟩ rfl d_Dc_addOneToLast_75 ?_
      refine lv_iconst (v := 1) S.1 S.2.1 d_Dc_addOneToLast_78 (by decide) ?_
      refine lv_iadd S.1 S.2.1 d_Dc_addOneToLast_79 ?_
      refine gx_pf (v := .int (o_pointq + (1 : Int32))) (ws2 := (ww_Dc_addOneToLast g o o_digits o_number_v o_chunks_v (.ref o_digits) (1 : Int32) (o_pointq + (1 : Int32)) (upd o_digits_cq (0 : Int32).toNatClampNeg (vp_nar .byte (1 : Int32))))) S E hS hP hD 0 rfl rfl i_Dc k_Dc n_Dc 4 rfl wd_213 ⟨rfl, rfl, rfl, rfl⟩ rfl rfl rfl d_Dc_addOneToLast_80 rfl (fun H locs hS hP hD => ?_)
      obtain rfl := Option.some.inj hf
      exact gx_rv S hr hlk hS hP hD d_Dc_addOneToLast_83
    ·
      have hf := gx_ifn h hf
      refine lv_aload_n S.1 S.2.1 d_Dc_addOneToLast_42 rfl (lv_at hl 0 rfl) ?_
      refine gx_gf (v := .ref o_digits) S E hP 0 rfl rfl i_Dc 2 rfl wd_210 ⟨rfl, rfl, rfl⟩ rfl d_Dc_addOneToLast_43 ?_
      refine lv_aload_n S.1 S.2.1 d_Dc_addOneToLast_46 rfl (lv_at hl 0 rfl) ?_
      refine gx_gf (v := .int o_sizeq) S E hP 0 rfl rfl i_Dc 3 rfl wd_211 ⟨rfl, rfl, rfl⟩ rfl d_Dc_addOneToLast_47 ?_
      refine lv_iconst (v := 1) S.1 S.2.1 d_Dc_addOneToLast_50 (by decide) ?_
      refine lv_isub S.1 S.2.1 d_Dc_addOneToLast_51 ?_
      refine lv_dup2_11 S.1 S.2.1 d_Dc_addOneToLast_52 rfl rfl ?_
      obtain ⟨hin, hf⟩ := gx_chk hf
      refine va_bald S.1 S.2.1 E.1.1 hP 1 1 rfl rfl (gx_okv hin) d_Dc_addOneToLast_53 ?_
      refine lv_iconst (v := 1) S.1 S.2.1 d_Dc_addOneToLast_54 (by decide) ?_
      refine lv_iadd S.1 S.2.1 d_Dc_addOneToLast_55 ?_
      refine lv_i2b S.1 S.2.1 d_Dc_addOneToLast_56 rfl ?_
      obtain ⟨hin, hf⟩ := gx_chk hf
      refine gx_bast (ws2 := (ww_Dc_addOneToLast g o o_digits o_number_v o_chunks_v (.ref o_digits) o_sizeq o_pointq (upd o_digits_cq (o_sizeq - (1 : Int32)).toNatClampNeg (vp_nar .byte (((o_digits_cq (o_sizeq - (1 : Int32)).toNatClampNeg) + (1 : Int32)).toInt8.toInt32))))) S E hS hP hD 1 1 rfl rfl hin d_Dc_addOneToLast_57 rfl (fun H locs hS hP hD => ?_)
      refine lv_goto (tgt := 83) S.1 S.2.1 d_Dc_addOneToLast_58 (by decide) ?_
      obtain rfl := Option.some.inj hf
      exact gx_rv S hr hlk hS hP hD d_Dc_addOneToLast_83
  have c_5 : ∀ n : Nat, ∀ (v1 : Int32) (o_sizeq : Int32) (o_pointq : Int32) (o_digits_cq : Nat → Int32) (ls : Array Slot) (H : Heap) (locs : List Loc), lv_has ls 2 [(0, .ref o), (1, .int v1)] → va_S (va_A (ww_Dc_addOneToLast g o o_digits o_number_v o_chunks_v (.ref o_digits) o_size o_point o_digits_c) s.heap.size) s.heap H locs → va_P D vwC (ww_Dc_addOneToLast g o o_digits o_number_v o_chunks_v (.ref o_digits) o_sizeq o_pointq o_digits_cq) H → va_D (va_A (ww_Dc_addOneToLast g o o_digits o_number_v o_chunks_v (.ref o_digits) o_size o_point o_digits_c) s.heap.size) (ww_Dc_addOneToLast g o o_digits o_number_v o_chunks_v (.ref o_digits) o_sizeq o_pointq o_digits_cq) → (f_Dc_addOneToLast_5 n v1 o_sizeq o_pointq o_digits_cq) = some r → W p l e ({ frames := 0, cells := 0, slots := 0, locals := 0 } : Room) s m ([.ref o] : List Value).toArray below meth c H locs 0 0 (MQ below (gx_Qv D (ww_Dc_addOneToLast g o o_digits o_number_v o_chunks_v (.ref o_digits) o_size o_point o_digits_c) (ww_Dc_addOneToLast g o o_digits o_number_v o_chunks_v (.ref o_digits) r.1 r.2.1 r.2.2) s.heap.size) ([.ref o] : List Value).toArray s 0 0 (va_A (ww_Dc_addOneToLast g o o_digits o_number_v o_chunks_v (.ref o_digits) o_size o_point o_digits_c) s.heap.size)) (F0 m 5 ls []) := by
    intro n
    induction n with
    | zero => intro v1 o_sizeq o_pointq o_digits_cq ls H locs hl hS hP hD hf; cases hf
    | succ n ih =>
      intro v1 o_sizeq o_pointq o_digits_cq ls H locs hl hS hP hD hf
      have hf : (if v1 ≤ 0 then (f_Dc_addOneToLast_35 o_sizeq o_pointq o_digits_cq) else (if gx_ok (v1 - (1 : Int32)) 792 = true then if (o_digits_cq (v1 - (1 : Int32)).toNatClampNeg) = (9 : Int32) then (f_Dc_addOneToLast_5 n (v1 + (-1)) (v1 - (1 : Int32)) o_pointq o_digits_cq) else (f_Dc_addOneToLast_35 o_sizeq o_pointq o_digits_cq) else none)) = some r := hf
      refine lv_iload_n S.1 S.2.1 d_Dc_addOneToLast_5 rfl (lv_at hl 1 rfl) ?_
      refine lv_if_le (tgt := 35) S.1 S.2.1 d_Dc_addOneToLast_6 (by decide) (fun h => ?_) (fun h => ?_)
      ·
        have hf := gx_ifp h hf
        exact c_35 o_sizeq o_pointq o_digits_cq ls _ _ (lv_sub hl [0] rfl) hS hP hD hf
      ·
        have hf := gx_ifn h hf
        refine lv_aload_n S.1 S.2.1 d_Dc_addOneToLast_9 rfl (lv_at hl 0 rfl) ?_
        refine gx_gf (v := .ref o_digits) S E hP 0 rfl rfl i_Dc 2 rfl wd_210 ⟨rfl, rfl, rfl⟩ rfl d_Dc_addOneToLast_10 ?_
        refine lv_iload_n S.1 S.2.1 d_Dc_addOneToLast_13 rfl (lv_at hl 1 rfl) ?_
        refine lv_iconst (v := 1) S.1 S.2.1 d_Dc_addOneToLast_14 (by decide) ?_
        refine lv_isub S.1 S.2.1 d_Dc_addOneToLast_15 ?_
        obtain ⟨hin, hf⟩ := gx_chk hf
        refine va_bald S.1 S.2.1 E.1.1 hP 1 1 rfl rfl (gx_okv hin) d_Dc_addOneToLast_16 ?_
        refine lv_bipush (v := 9) S.1 S.2.1 d_Dc_addOneToLast_17 (by decide) ?_
        refine lv_icmp_ne (tgt := 35) S.1 S.2.1 d_Dc_addOneToLast_19 (by decide) (fun h => ?_) (fun h => ?_)
        ·
          have hf := gx_ifn h hf
          exact c_35 o_sizeq o_pointq o_digits_cq ls _ _ (lv_sub hl [0] rfl) hS hP hD hf
        ·
          have hf := gx_ifp h hf
          refine lv_aload_n S.1 S.2.1 d_Dc_addOneToLast_22 rfl (lv_at hl 0 rfl) ?_
          refine lv_iload_n S.1 S.2.1 d_Dc_addOneToLast_23 rfl (lv_at hl 1 rfl) ?_
          refine lv_iconst (v := 1) S.1 S.2.1 d_Dc_addOneToLast_24 (by decide) ?_
          refine lv_isub S.1 S.2.1 d_Dc_addOneToLast_25 ?_
          refine gx_pf (v := .int (v1 - (1 : Int32))) (ws2 := (ww_Dc_addOneToLast g o o_digits o_number_v o_chunks_v (.ref o_digits) (v1 - (1 : Int32)) o_pointq o_digits_cq)) S E hS hP hD 0 rfl rfl i_Dc k_Dc n_Dc 3 rfl wd_211 ⟨rfl, rfl, rfl, rfl⟩ rfl rfl rfl d_Dc_addOneToLast_26 rfl (fun H locs hS hP hD => ?_)
          refine lv_iinc (v := v1 + (-1)) (lv' := [(1, .int (v1 + (-1))), (0, .ref o)]) S.1 S.2.1 d_Dc_addOneToLast_29 hl (k := 1) rfl rfl (by decide) rfl (fun ls hl => ?_)
          refine lv_goto (tgt := 5) S.1 S.2.1 d_Dc_addOneToLast_32 (by decide) ?_
          exact ih (v1 + (-1)) (v1 - (1 : Int32)) o_pointq o_digits_cq ls _ _ (lv_sub hl [1, 0] rfl) hS hP hD hf
  have hf : (f_Dc_addOneToLast_5 gx_fu o_size o_size o_point o_digits_c) = some r := hf
  refine lv_aload_n S.1 S.2.1 d_Dc_addOneToLast_0 rfl (lv_at hl 0 rfl) ?_
  refine gx_gf (v := .int o_size) S E hP 0 rfl rfl i_Dc 3 rfl wd_211 ⟨rfl, rfl, rfl⟩ rfl d_Dc_addOneToLast_1 ?_
  refine lv_istore_n (lv' := [(1, .int o_size), (0, .ref o)]) S.1 S.2.1 d_Dc_addOneToLast_4 rfl hl (by decide) rfl (fun ls hl => ?_)
  exact c_5 gx_fu o_size o_size o_point o_digits_c ls _ _ (lv_sub hl [1, 0] rfl) hS hP hD hf
theorem d_Dc_roundTo_0 : decode b_Dc_roundTo 0 = .ok (.iload_n 1, 1) := by decide +kernel
theorem d_Dc_roundTo_1 : decode b_Dc_roundTo 1 = .ok (.aload_n 0, 1) := by decide +kernel
theorem d_Dc_roundTo_2 : decode b_Dc_roundTo 2 = .ok (.getfield 24, 3) := by decide +kernel
theorem d_Dc_roundTo_5 : decode b_Dc_roundTo 5 = .ok (.if_icmp .lt 4, 3) := by decide +kernel
theorem d_Dc_roundTo_8 : decode b_Dc_roundTo 8 = .ok (.return_, 1) := by decide +kernel
theorem d_Dc_roundTo_9 : decode b_Dc_roundTo 9 = .ok (.aload_n 0, 1) := by decide +kernel
theorem d_Dc_roundTo_10 : decode b_Dc_roundTo 10 = .ok (.iload_n 1, 1) := by decide +kernel
theorem d_Dc_roundTo_11 : decode b_Dc_roundTo 11 = .ok (.invokevirtual 73, 3) := by decide +kernel
theorem d_Dc_roundTo_14 : decode b_Dc_roundTo 14 = .ok (.iconst 5, 1) := by decide +kernel
theorem d_Dc_roundTo_15 : decode b_Dc_roundTo 15 = .ok (.if_icmp .lt 7, 3) := by decide +kernel
theorem d_Dc_roundTo_18 : decode b_Dc_roundTo 18 = .ok (.iconst 1, 1) := by decide +kernel
theorem d_Dc_roundTo_19 : decode b_Dc_roundTo 19 = .ok (.goto 4, 3) := by decide +kernel
theorem d_Dc_roundTo_22 : decode b_Dc_roundTo 22 = .ok (.iconst 0, 1) := by decide +kernel
theorem d_Dc_roundTo_23 : decode b_Dc_roundTo 23 = .ok (.istore_n 2, 1) := by decide +kernel
theorem d_Dc_roundTo_24 : decode b_Dc_roundTo 24 = .ok (.aload_n 0, 1) := by decide +kernel
theorem d_Dc_roundTo_25 : decode b_Dc_roundTo 25 = .ok (.iload_n 1, 1) := by decide +kernel
theorem d_Dc_roundTo_26 : decode b_Dc_roundTo 26 = .ok (.iconst 0, 1) := by decide +kernel
theorem d_Dc_roundTo_27 : decode b_Dc_roundTo 27 = .ok (.invokestatic 77, 3) := by decide +kernel
theorem d_Dc_roundTo_30 : decode b_Dc_roundTo 30 = .ok (.putfield 24, 3) := by decide +kernel
theorem d_Dc_roundTo_33 : decode b_Dc_roundTo 33 = .ok (.iload_n 2, 1) := by decide +kernel
theorem d_Dc_roundTo_34 : decode b_Dc_roundTo 34 = .ok (.ifCond .eq 10, 3) := by decide +kernel
theorem d_Dc_roundTo_37 : decode b_Dc_roundTo 37 = .ok (.aload_n 0, 1) := by decide +kernel
theorem d_Dc_roundTo_38 : decode b_Dc_roundTo 38 = .ok (.invokevirtual 80, 3) := by decide +kernel
theorem d_Dc_roundTo_41 : decode b_Dc_roundTo 41 = .ok (.goto 15, 3) := by decide +kernel
theorem d_Dc_roundTo_44 : decode b_Dc_roundTo 44 = .ok (.aload_n 0, 1) := by decide +kernel
theorem d_Dc_roundTo_45 : decode b_Dc_roundTo 45 = .ok (.getfield 24, 3) := by decide +kernel
theorem d_Dc_roundTo_48 : decode b_Dc_roundTo 48 = .ok (.ifCond .ne 8, 3) := by decide +kernel
theorem d_Dc_roundTo_51 : decode b_Dc_roundTo 51 = .ok (.aload_n 0, 1) := by decide +kernel
theorem d_Dc_roundTo_52 : decode b_Dc_roundTo 52 = .ok (.iconst 1, 1) := by decide +kernel
theorem d_Dc_roundTo_53 : decode b_Dc_roundTo 53 = .ok (.putfield 28, 3) := by decide +kernel
theorem d_Dc_roundTo_56 : decode b_Dc_roundTo 56 = .ok (.return_, 1) := by decide +kernel
theorem cal_Dc_roundTo : gx_cal y_Dc_roundTo b_Dc_roundTo 3 none 1 := ⟨wd_989, wd_10, by decide +kernel⟩
def ww_Dc_roundTo (g : Nat → ClassId) (o : Nat) (o_digits : Nat) (x_o_number : Value) (x_o_chunks : Value) (x_o_digits : Value) (x_o_size : Int32) (x_o_point : Int32) (y_o_digits : Nat → Int32) : va_W := [(o, .inr (4, [x_o_number, x_o_chunks, x_o_digits, .int x_o_size, .int x_o_point])), (o_digits, .inl (g 1, 792, .inl y_o_digits))]
def f_Dc_roundTo_23 (v1 : Int32) (t0 : Int32) (o_sizeq : Int32) (o_digits_cq : Nat → Int32) (o_pointq : Int32) : Option (Int32 × (Nat → Int32) × Int32) := (f_JMath_max v1 (0 : Int32)).bind fun u27 => if t0 = 0 then (if u27 = 0 then (some (u27, o_digits_cq, (1 : Int32))) else (some (u27, o_digits_cq, o_pointq))) else ((f_Dc_addOneToLast u27 o_pointq o_digits_cq).bind fun u38 => some (u38.1, u38.2.2, u38.2.1))
def f_Dc_roundTo (a1 : Int32) (o_size : Int32) (o_digits_c : Nat → Int32) (o_point : Int32) : Option (Int32 × (Nat → Int32) × Int32) := if a1 < o_size then ((f_Dc_digit a1 o_size o_digits_c).bind fun u11 => if u11 < (5 : Int32) then (f_Dc_roundTo_23 a1 (0 : Int32) o_size o_digits_c o_point) else (f_Dc_roundTo_23 a1 (1 : Int32) o_size o_digits_c o_point)) else (some (o_size, o_digits_c, o_point))
set_option maxHeartbeats 4000000 in
set_option maxRecDepth 100000 in
theorem c_Dc_roundTo (l : Launch) (z : State) (D : va_G) (g : Nat → ClassId) (o : Nat) (o_digits : Nat) (o_number_v : Value) (o_chunks_v : Value) (o_size : Int32) (o_point : Int32) (o_digits_c : Nat → Int32) (a1 : Int32) (r : Int32 × (Nat → Int32) × Int32) (hf : f_Dc_roundTo a1 o_size o_digits_c o_point = some r) : gx_Mv l z D g y_Dc_roundTo b_Dc_roundTo 3 ({ frames := 1, cells := 0, slots := 0, locals := 21 } : Room) [.ref o, .int a1] (ww_Dc_roundTo g o o_digits o_number_v o_chunks_v (.ref o_digits) o_size o_point o_digits_c) (ww_Dc_roundTo g o o_digits o_number_v o_chunks_v (.ref o_digits) r.1 r.2.2 r.2.1) := by
  refine gx_go (by decide +kernel) rfl ?_
  intro p e s m below meth c ls S hr hlk hnm E hP hD hl
  have hS : va_S (va_A (ww_Dc_roundTo g o o_digits o_number_v o_chunks_v (.ref o_digits) o_size o_point o_digits_c) s.heap.size) s.heap s.heap [] := va_S.rf
  have hl : lv_has ls 3 [(0, .ref o), (1, .int a1)] := hl
  have c_23 : ∀ (v1 : Int32) (t0 : Int32) (o_sizeq : Int32) (o_digits_cq : Nat → Int32) (o_pointq : Int32) (ls : Array Slot) (H : Heap) (locs : List Loc), lv_has ls 3 [(0, .ref o), (1, .int v1)] → va_S (va_A (ww_Dc_roundTo g o o_digits o_number_v o_chunks_v (.ref o_digits) o_size o_point o_digits_c) s.heap.size) s.heap H locs → va_P D vwC (ww_Dc_roundTo g o o_digits o_number_v o_chunks_v (.ref o_digits) o_sizeq o_pointq o_digits_cq) H → va_D (va_A (ww_Dc_roundTo g o o_digits o_number_v o_chunks_v (.ref o_digits) o_size o_point o_digits_c) s.heap.size) (ww_Dc_roundTo g o o_digits o_number_v o_chunks_v (.ref o_digits) o_sizeq o_pointq o_digits_cq) → (f_Dc_roundTo_23 v1 t0 o_sizeq o_digits_cq o_pointq) = some r → W p l e ({ frames := 1, cells := 0, slots := 0, locals := 21 } : Room) s m ([.ref o, .int a1] : List Value).toArray below meth c H locs 0 0 (MQ below (gx_Qv D (ww_Dc_roundTo g o o_digits o_number_v o_chunks_v (.ref o_digits) o_size o_point o_digits_c) (ww_Dc_roundTo g o o_digits o_number_v o_chunks_v (.ref o_digits) r.1 r.2.2 r.2.1) s.heap.size) ([.ref o, .int a1] : List Value).toArray s 0 0 (va_A (ww_Dc_roundTo g o o_digits o_number_v o_chunks_v (.ref o_digits) o_size o_point o_digits_c) s.heap.size)) (F0 m 23 ls [.int t0]) := by
    intro v1 t0 o_sizeq o_digits_cq o_pointq ls H locs hl hS hP hD hf
    have hf : ((f_JMath_max v1 (0 : Int32)).bind fun u27 => if t0 = 0 then (if u27 = 0 then (some (u27, o_digits_cq, (1 : Int32))) else (some (u27, o_digits_cq, o_pointq))) else ((f_Dc_addOneToLast u27 o_pointq o_digits_cq).bind fun u38 => some (u38.1, u38.2.2, u38.2.1))) = some r := hf
    refine lv_istore_n (lv' := [(2, .int t0), (0, .ref o), (1, .int v1)]) S.1 S.2.1 d_Dc_roundTo_23 rfl hl (by decide) rfl (fun ls hl => ?_)
    refine lv_aload_n S.1 S.2.1 d_Dc_roundTo_24 rfl (lv_at hl 1 rfl) ?_
    refine lv_iload_n S.1 S.2.1 d_Dc_roundTo_25 rfl (lv_at hl 2 rfl) ?_
    refine lv_iconst (v := 0) S.1 S.2.1 d_Dc_roundTo_26 (by decide) ?_
    obtain ⟨u27, hc27, hf⟩ := gx_bnd hf
    refine gx_Si (ws2 := (ww_Dc_roundTo g o o_digits o_number_v o_chunks_v (.ref o_digits) o_sizeq o_pointq o_digits_cq)) S E hS hP hD (c_JMath_max l z D g v1 (0 : Int32) u27 hc27) cal_JMath_max wd_411 wd_595 rfl [] rfl rfl rfl rfl hl.1 rfl d_Dc_roundTo_27 ⟨Nat.zero_le _, Nat.zero_le _⟩ rfl (fun H locs hS hP hD => ?_)
    refine gx_pf (v := .int u27) (ws2 := (ww_Dc_roundTo g o o_digits o_number_v o_chunks_v (.ref o_digits) u27 o_pointq o_digits_cq)) S E hS hP hD 0 rfl rfl i_Dc k_Dc n_Dc 3 rfl wd_211 ⟨rfl, rfl, rfl, rfl⟩ rfl rfl rfl d_Dc_roundTo_30 rfl (fun H locs hS hP hD => ?_)
    refine lv_iload_n S.1 S.2.1 d_Dc_roundTo_33 rfl (lv_at hl 0 rfl) ?_
    refine lv_if_eq (tgt := 44) S.1 S.2.1 d_Dc_roundTo_34 (by decide) (fun h => ?_) (fun h => ?_)
    ·
      have hf := gx_ifp h hf
      refine lv_aload_n S.1 S.2.1 d_Dc_roundTo_44 rfl (lv_at hl 1 rfl) ?_
      refine gx_gf (v := .int u27) S E hP 0 rfl rfl i_Dc 3 rfl wd_211 ⟨rfl, rfl, rfl⟩ rfl d_Dc_roundTo_45 ?_
      refine lv_if_ne (tgt := 56) S.1 S.2.1 d_Dc_roundTo_48 (by decide) (fun h => ?_) (fun h => ?_)
      ·
        have hf := gx_ifn h hf
        obtain rfl := Option.some.inj hf
        exact gx_rv S hr hlk hS hP hD d_Dc_roundTo_56
      ·
        have hf := gx_ifp h hf
        refine lv_aload_n S.1 S.2.1 d_Dc_roundTo_51 rfl (lv_at hl 1 rfl) ?_
        refine lv_iconst (v := 1) S.1 S.2.1 d_Dc_roundTo_52 (by decide) ?_
        refine gx_pf (v := .int (1 : Int32)) (ws2 := (ww_Dc_roundTo g o o_digits o_number_v o_chunks_v (.ref o_digits) u27 (1 : Int32) o_digits_cq)) S E hS hP hD 0 rfl rfl i_Dc k_Dc n_Dc 4 rfl wd_213 ⟨rfl, rfl, rfl, rfl⟩ rfl rfl rfl d_Dc_roundTo_53 rfl (fun H locs hS hP hD => ?_)
        obtain rfl := Option.some.inj hf
        exact gx_rv S hr hlk hS hP hD d_Dc_roundTo_56
    ·
      have hf := gx_ifn h hf
      refine lv_aload_n S.1 S.2.1 d_Dc_roundTo_37 rfl (lv_at hl 1 rfl) ?_
      obtain ⟨u38, hc38, hf⟩ := gx_bnd hf
      refine gx_Vv (ws2 := (ww_Dc_roundTo g o o_digits o_number_v o_chunks_v (.ref o_digits) u38.1 u38.2.1 u38.2.2)) S E hS hP hD (c_Dc_addOneToLast l z D g o o_digits o_number_v o_chunks_v u27 o_pointq o_digits_cq u38 hc38) cal_Dc_addOneToLast wd_992 ws_34 wd_990 rfl [0, 1] rfl rfl rfl (gx_rc E hP 0 rfl rfl) rfl hl.1 rfl d_Dc_roundTo_38 ⟨Nat.zero_le _, Nat.zero_le _⟩ rfl (fun H locs hS hP hD => ?_)
      refine lv_goto (tgt := 56) S.1 S.2.1 d_Dc_roundTo_41 (by decide) ?_
      obtain rfl := Option.some.inj hf
      exact gx_rv S hr hlk hS hP hD d_Dc_roundTo_56
  have hf : (if a1 < o_size then ((f_Dc_digit a1 o_size o_digits_c).bind fun u11 => if u11 < (5 : Int32) then (f_Dc_roundTo_23 a1 (0 : Int32) o_size o_digits_c o_point) else (f_Dc_roundTo_23 a1 (1 : Int32) o_size o_digits_c o_point)) else (some (o_size, o_digits_c, o_point))) = some r := hf
  refine lv_iload_n S.1 S.2.1 d_Dc_roundTo_0 rfl (lv_at hl 1 rfl) ?_
  refine lv_aload_n S.1 S.2.1 d_Dc_roundTo_1 rfl (lv_at hl 0 rfl) ?_
  refine gx_gf (v := .int o_size) S E hP 0 rfl rfl i_Dc 3 rfl wd_211 ⟨rfl, rfl, rfl⟩ rfl d_Dc_roundTo_2 ?_
  refine lv_icmp_lt (tgt := 9) S.1 S.2.1 d_Dc_roundTo_5 (by decide) (fun h => ?_) (fun h => ?_)
  ·
    have hf := gx_ifp h hf
    refine lv_aload_n S.1 S.2.1 d_Dc_roundTo_9 rfl (lv_at hl 0 rfl) ?_
    refine lv_iload_n S.1 S.2.1 d_Dc_roundTo_10 rfl (lv_at hl 1 rfl) ?_
    obtain ⟨u11, hc11, hf⟩ := gx_bnd hf
    refine gx_Vi (ws2 := (ww_Dc_roundTo g o o_digits o_number_v o_chunks_v (.ref o_digits) o_size o_point o_digits_c)) S E hS hP hD (c_Dc_digit l z D g o o_digits o_number_v o_chunks_v o_size o_point o_digits_c a1 u11 hc11) cal_Dc_digit wd_598 wd_599 wd_597 rfl [0, 1] rfl rfl rfl (gx_rc E hP 0 rfl rfl) rfl hl.1 rfl d_Dc_roundTo_11 ⟨Nat.zero_le _, Nat.zero_le _⟩ rfl (fun H locs hS hP hD => ?_)
    refine lv_iconst (v := 5) S.1 S.2.1 d_Dc_roundTo_14 (by decide) ?_
    refine lv_icmp_lt (tgt := 22) S.1 S.2.1 d_Dc_roundTo_15 (by decide) (fun h => ?_) (fun h => ?_)
    ·
      have hf := gx_ifp h hf
      refine lv_iconst (v := 0) S.1 S.2.1 d_Dc_roundTo_22 (by decide) ?_
      exact c_23 a1 (0 : Int32) o_size o_digits_c o_point ls _ _ (lv_sub hl [0, 1] rfl) hS hP hD hf
    ·
      have hf := gx_ifn h hf
      refine lv_iconst (v := 1) S.1 S.2.1 d_Dc_roundTo_18 (by decide) ?_
      refine lv_goto (tgt := 23) S.1 S.2.1 d_Dc_roundTo_19 (by decide) ?_
      exact c_23 a1 (1 : Int32) o_size o_digits_c o_point ls _ _ (lv_sub hl [0, 1] rfl) hS hP hD hf
  ·
    have hf := gx_ifn h hf
    obtain rfl := Option.some.inj hf
    exact gx_rv S hr hlk hS hP hD d_Dc_roundTo_8
theorem d_Dc_addWhole_0 : decode b_Dc_addWhole 0 = .ok (.aload_n 0, 1) := by decide +kernel
theorem d_Dc_addWhole_1 : decode b_Dc_addWhole 1 = .ok (.getfield 28, 3) := by decide +kernel
theorem d_Dc_addWhole_4 : decode b_Dc_addWhole 4 = .ok (.iconst 1, 1) := by decide +kernel
theorem d_Dc_addWhole_5 : decode b_Dc_addWhole 5 = .ok (.invokestatic 77, 3) := by decide +kernel
theorem d_Dc_addWhole_8 : decode b_Dc_addWhole 8 = .ok (.istore_n 3, 1) := by decide +kernel
theorem d_Dc_addWhole_9 : decode b_Dc_addWhole 9 = .ok (.iconst 0, 1) := by decide +kernel
theorem d_Dc_addWhole_10 : decode b_Dc_addWhole 10 = .ok (.istore 4, 2) := by decide +kernel
theorem d_Dc_addWhole_12 : decode b_Dc_addWhole 12 = .ok (.iload 4, 2) := by decide +kernel
theorem d_Dc_addWhole_14 : decode b_Dc_addWhole 14 = .ok (.iload_n 3, 1) := by decide +kernel
theorem d_Dc_addWhole_15 : decode b_Dc_addWhole 15 = .ok (.if_icmp .ge 53, 3) := by decide +kernel
theorem d_Dc_addWhole_18 : decode b_Dc_addWhole 18 = .ok (.iload_n 2, 1) := by decide +kernel
theorem d_Dc_addWhole_19 : decode b_Dc_addWhole 19 = .ok (.ifCond .eq 23, 3) := by decide +kernel
theorem d_Dc_addWhole_22 : decode b_Dc_addWhole 22 = .ok (.iload 4, 2) := by decide +kernel
theorem d_Dc_addWhole_24 : decode b_Dc_addWhole 24 = .ok (.ifCond .le 18, 3) := by decide +kernel
theorem d_Dc_addWhole_27 : decode b_Dc_addWhole 27 = .ok (.iload_n 3, 1) := by decide +kernel
theorem d_Dc_addWhole_28 : decode b_Dc_addWhole 28 = .ok (.iload 4, 2) := by decide +kernel
theorem d_Dc_addWhole_30 : decode b_Dc_addWhole 30 = .ok (.isub, 1) := by decide +kernel
theorem d_Dc_addWhole_31 : decode b_Dc_addWhole 31 = .ok (.iconst 3, 1) := by decide +kernel
theorem d_Dc_addWhole_32 : decode b_Dc_addWhole 32 = .ok (.irem, 1) := by decide +kernel
theorem d_Dc_addWhole_33 : decode b_Dc_addWhole 33 = .ok (.ifCond .ne 9, 3) := by decide +kernel
theorem d_Dc_addWhole_36 : decode b_Dc_addWhole 36 = .ok (.aload_n 1, 1) := by decide +kernel
theorem d_Dc_addWhole_37 : decode b_Dc_addWhole 37 = .ok (.bipush 44, 2) := by decide +kernel
theorem d_Dc_addWhole_39 : decode b_Dc_addWhole 39 = .ok (.invokevirtual 83, 3) := by decide +kernel
theorem d_Dc_addWhole_42 : decode b_Dc_addWhole 42 = .ok (.aload_n 1, 1) := by decide +kernel
theorem d_Dc_addWhole_43 : decode b_Dc_addWhole 43 = .ok (.bipush 48, 2) := by decide +kernel
theorem d_Dc_addWhole_45 : decode b_Dc_addWhole 45 = .ok (.aload_n 0, 1) := by decide +kernel
theorem d_Dc_addWhole_46 : decode b_Dc_addWhole 46 = .ok (.iload 4, 2) := by decide +kernel
theorem d_Dc_addWhole_48 : decode b_Dc_addWhole 48 = .ok (.aload_n 0, 1) := by decide +kernel
theorem d_Dc_addWhole_49 : decode b_Dc_addWhole 49 = .ok (.getfield 28, 3) := by decide +kernel
theorem d_Dc_addWhole_52 : decode b_Dc_addWhole 52 = .ok (.iadd, 1) := by decide +kernel
theorem d_Dc_addWhole_53 : decode b_Dc_addWhole 53 = .ok (.iload_n 3, 1) := by decide +kernel
theorem d_Dc_addWhole_54 : decode b_Dc_addWhole 54 = .ok (.isub, 1) := by decide +kernel
theorem d_Dc_addWhole_55 : decode b_Dc_addWhole 55 = .ok (.invokevirtual 73, 3) := by decide +kernel
theorem d_Dc_addWhole_58 : decode b_Dc_addWhole 58 = .ok (.iadd, 1) := by decide +kernel
theorem d_Dc_addWhole_59 : decode b_Dc_addWhole 59 = .ok (.invokevirtual 83, 3) := by decide +kernel
theorem d_Dc_addWhole_62 : decode b_Dc_addWhole 62 = .ok (.iinc 4 1, 3) := by decide +kernel
theorem d_Dc_addWhole_65 : decode b_Dc_addWhole 65 = .ok (.goto (-53), 3) := by decide +kernel
theorem d_Dc_addWhole_68 : decode b_Dc_addWhole 68 = .ok (.return_, 1) := by decide +kernel
theorem cal_Dc_addWhole : gx_cal y_Dc_addWhole b_Dc_addWhole 5 none 2 := ⟨wd_594, wd_10, by decide +kernel⟩
def ww_Dc_addWhole (g : Nat → ClassId) (o : Nat) (o_digits : Nat) (a1 : Nat) (a1_row : Nat) (x_o_number : Value) (x_o_chunks : Value) (x_o_digits : Value) (x_o_size : Int32) (x_o_point : Int32) (y_o_digits : Nat → Int32) (x_a1_row : Value) (x_a1_length : Int32) (x_a1_over : Int32) (a1_row_n : Nat) (y_a1_row : Nat → Int32) : va_W := [(o, .inr (4, [x_o_number, x_o_chunks, x_o_digits, .int x_o_size, .int x_o_point])), (o_digits, .inl (g 1, 792, .inl y_o_digits)), (a1, .inr (3, [x_a1_row, .int x_a1_length, .int x_a1_over])), (a1_row, .inl (g 1, a1_row_n, .inl y_a1_row))]
def f_Dc_addWhole_42 (k12 : Int32 → Int32 → Int32 → Nat → Int32 → Int32 → (Nat → Int32) → Int32 → Int32 → (Nat → Int32) → Option (Int32 × Int32 × (Nat → Int32))) (v2 : Int32) (v3 : Int32) (v4 : Int32) (a1_row_n : Nat) (o_point : Int32) (o_size : Int32) (o_digits_c : Nat → Int32) (a1_lengthq : Int32) (a1_overq : Int32) (a1_row_cq : Nat → Int32) : Option (Int32 × Int32 × (Nat → Int32)) := (f_Dc_digit ((v4 + o_point) - v3) o_size o_digits_c).bind fun u55 => (f_By_add ((48 : Int32) + u55) a1_row_n a1_lengthq a1_overq a1_row_cq).bind fun u59 => k12 v2 v3 (v4 + 1) a1_row_n o_point o_size o_digits_c u59.1 u59.2.1 u59.2.2
def f_Dc_addWhole_12 : Nat → Int32 → Int32 → Int32 → Nat → Int32 → Int32 → (Nat → Int32) → Int32 → Int32 → (Nat → Int32) → Option (Int32 × Int32 × (Nat → Int32))
  | 0, _, _, _, _, _, _, _, _, _, _ => none
  | n + 1, v2, v3, v4, a1_row_n, o_point, o_size, o_digits_c, a1_lengthq, a1_overq, a1_row_cq => if v3 ≤ v4 then (some (a1_lengthq, a1_overq, a1_row_cq)) else (if v2 = 0 then (f_Dc_addWhole_42 (fun v2 v3 v4 a1_row_n o_point o_size o_digits_c a1_lengthq a1_overq a1_row_cq => f_Dc_addWhole_12 n v2 v3 v4 a1_row_n o_point o_size o_digits_c a1_lengthq a1_overq a1_row_cq) v2 v3 v4 a1_row_n o_point o_size o_digits_c a1_lengthq a1_overq a1_row_cq) else (if v4 ≤ 0 then (f_Dc_addWhole_42 (fun v2 v3 v4 a1_row_n o_point o_size o_digits_c a1_lengthq a1_overq a1_row_cq => f_Dc_addWhole_12 n v2 v3 v4 a1_row_n o_point o_size o_digits_c a1_lengthq a1_overq a1_row_cq) v2 v3 v4 a1_row_n o_point o_size o_digits_c a1_lengthq a1_overq a1_row_cq) else (if ((v3 - v4) - (v3 - v4) / (3 : Int32) * (3 : Int32)) = 0 then ((f_By_add (44 : Int32) a1_row_n a1_lengthq a1_overq a1_row_cq).bind fun u39 => f_Dc_addWhole_42 (fun v2 v3 v4 a1_row_n o_point o_size o_digits_c a1_lengthq a1_overq a1_row_cq => f_Dc_addWhole_12 n v2 v3 v4 a1_row_n o_point o_size o_digits_c a1_lengthq a1_overq a1_row_cq) v2 v3 v4 a1_row_n o_point o_size o_digits_c u39.1 u39.2.1 u39.2.2) else (f_Dc_addWhole_42 (fun v2 v3 v4 a1_row_n o_point o_size o_digits_c a1_lengthq a1_overq a1_row_cq => f_Dc_addWhole_12 n v2 v3 v4 a1_row_n o_point o_size o_digits_c a1_lengthq a1_overq a1_row_cq) v2 v3 v4 a1_row_n o_point o_size o_digits_c a1_lengthq a1_overq a1_row_cq))))
def f_Dc_addWhole (a2 : Int32) (a1_row_n : Nat) (o_point : Int32) (o_size : Int32) (o_digits_c : Nat → Int32) (a1_length : Int32) (a1_over : Int32) (a1_row_c : Nat → Int32) : Option (Int32 × Int32 × (Nat → Int32)) := (f_JMath_max o_point (1 : Int32)).bind fun u5 => f_Dc_addWhole_12 gx_fu a2 u5 (0 : Int32) a1_row_n o_point o_size o_digits_c a1_length a1_over a1_row_c
set_option maxHeartbeats 4000000 in
set_option maxRecDepth 100000 in
theorem c_Dc_addWhole (l : Launch) (z : State) (D : va_G) (g : Nat → ClassId) (o : Nat) (o_digits : Nat) (a1 : Nat) (a1_row : Nat) (o_number_v : Value) (o_chunks_v : Value) (o_size : Int32) (o_point : Int32) (o_digits_c : Nat → Int32) (a1_length : Int32) (a1_over : Int32) (a1_row_n : Nat) (a1_row_c : Nat → Int32) (a2 : Int32) (r : Int32 × Int32 × (Nat → Int32)) (hf : f_Dc_addWhole a2 a1_row_n o_point o_size o_digits_c a1_length a1_over a1_row_c = some r) : gx_Mv l z D g y_Dc_addWhole b_Dc_addWhole 5 ({ frames := 1, cells := 0, slots := 0, locals := 21 } : Room) [.ref o, .ref a1, .int a2] (ww_Dc_addWhole g o o_digits a1 a1_row o_number_v o_chunks_v (.ref o_digits) o_size o_point o_digits_c (.ref a1_row) a1_length a1_over a1_row_n a1_row_c) (ww_Dc_addWhole g o o_digits a1 a1_row o_number_v o_chunks_v (.ref o_digits) o_size o_point o_digits_c (.ref a1_row) r.1 r.2.1 a1_row_n r.2.2) := by
  refine gx_go (by decide +kernel) rfl ?_
  intro p e s m below meth c ls S hr hlk hnm E hP hD hl
  have hS : va_S (va_A (ww_Dc_addWhole g o o_digits a1 a1_row o_number_v o_chunks_v (.ref o_digits) o_size o_point o_digits_c (.ref a1_row) a1_length a1_over a1_row_n a1_row_c) s.heap.size) s.heap s.heap [] := va_S.rf
  have hl : lv_has ls 5 [(0, .ref o), (1, .ref a1), (2, .int a2)] := hl
  have c_42 : ∀ (k12 : Int32 → Int32 → Int32 → Nat → Int32 → Int32 → (Nat → Int32) → Int32 → Int32 → (Nat → Int32) → Option (Int32 × Int32 × (Nat → Int32))) (hk12 : ∀ (v2 : Int32) (v3 : Int32) (v4 : Int32) (a1_lengthq : Int32) (a1_overq : Int32) (a1_row_cq : Nat → Int32) (ls : Array Slot) (H : Heap) (locs : List Loc), lv_has ls 5 [(0, .ref o), (1, .ref a1), (2, .int v2), (3, .int v3), (4, .int v4)] → va_S (va_A (ww_Dc_addWhole g o o_digits a1 a1_row o_number_v o_chunks_v (.ref o_digits) o_size o_point o_digits_c (.ref a1_row) a1_length a1_over a1_row_n a1_row_c) s.heap.size) s.heap H locs → va_P D vwC (ww_Dc_addWhole g o o_digits a1 a1_row o_number_v o_chunks_v (.ref o_digits) o_size o_point o_digits_c (.ref a1_row) a1_lengthq a1_overq a1_row_n a1_row_cq) H → va_D (va_A (ww_Dc_addWhole g o o_digits a1 a1_row o_number_v o_chunks_v (.ref o_digits) o_size o_point o_digits_c (.ref a1_row) a1_length a1_over a1_row_n a1_row_c) s.heap.size) (ww_Dc_addWhole g o o_digits a1 a1_row o_number_v o_chunks_v (.ref o_digits) o_size o_point o_digits_c (.ref a1_row) a1_lengthq a1_overq a1_row_n a1_row_cq) → (k12 v2 v3 v4 a1_row_n o_point o_size o_digits_c a1_lengthq a1_overq a1_row_cq) = some r → W p l e ({ frames := 1, cells := 0, slots := 0, locals := 21 } : Room) s m ([.ref o, .ref a1, .int a2] : List Value).toArray below meth c H locs 0 0 (MQ below (gx_Qv D (ww_Dc_addWhole g o o_digits a1 a1_row o_number_v o_chunks_v (.ref o_digits) o_size o_point o_digits_c (.ref a1_row) a1_length a1_over a1_row_n a1_row_c) (ww_Dc_addWhole g o o_digits a1 a1_row o_number_v o_chunks_v (.ref o_digits) o_size o_point o_digits_c (.ref a1_row) r.1 r.2.1 a1_row_n r.2.2) s.heap.size) ([.ref o, .ref a1, .int a2] : List Value).toArray s 0 0 (va_A (ww_Dc_addWhole g o o_digits a1 a1_row o_number_v o_chunks_v (.ref o_digits) o_size o_point o_digits_c (.ref a1_row) a1_length a1_over a1_row_n a1_row_c) s.heap.size)) (F0 m 12 ls [])), ∀ (v2 : Int32) (v3 : Int32) (v4 : Int32) (a1_lengthq : Int32) (a1_overq : Int32) (a1_row_cq : Nat → Int32) (ls : Array Slot) (H : Heap) (locs : List Loc), lv_has ls 5 [(0, .ref o), (1, .ref a1), (2, .int v2), (3, .int v3), (4, .int v4)] → va_S (va_A (ww_Dc_addWhole g o o_digits a1 a1_row o_number_v o_chunks_v (.ref o_digits) o_size o_point o_digits_c (.ref a1_row) a1_length a1_over a1_row_n a1_row_c) s.heap.size) s.heap H locs → va_P D vwC (ww_Dc_addWhole g o o_digits a1 a1_row o_number_v o_chunks_v (.ref o_digits) o_size o_point o_digits_c (.ref a1_row) a1_lengthq a1_overq a1_row_n a1_row_cq) H → va_D (va_A (ww_Dc_addWhole g o o_digits a1 a1_row o_number_v o_chunks_v (.ref o_digits) o_size o_point o_digits_c (.ref a1_row) a1_length a1_over a1_row_n a1_row_c) s.heap.size) (ww_Dc_addWhole g o o_digits a1 a1_row o_number_v o_chunks_v (.ref o_digits) o_size o_point o_digits_c (.ref a1_row) a1_lengthq a1_overq a1_row_n a1_row_cq) → (f_Dc_addWhole_42 k12 v2 v3 v4 a1_row_n o_point o_size o_digits_c a1_lengthq a1_overq a1_row_cq) = some r → W p l e ({ frames := 1, cells := 0, slots := 0, locals := 21 } : Room) s m ([.ref o, .ref a1, .int a2] : List Value).toArray below meth c H locs 0 0 (MQ below (gx_Qv D (ww_Dc_addWhole g o o_digits a1 a1_row o_number_v o_chunks_v (.ref o_digits) o_size o_point o_digits_c (.ref a1_row) a1_length a1_over a1_row_n a1_row_c) (ww_Dc_addWhole g o o_digits a1 a1_row o_number_v o_chunks_v (.ref o_digits) o_size o_point o_digits_c (.ref a1_row) r.1 r.2.1 a1_row_n r.2.2) s.heap.size) ([.ref o, .ref a1, .int a2] : List Value).toArray s 0 0 (va_A (ww_Dc_addWhole g o o_digits a1 a1_row o_number_v o_chunks_v (.ref o_digits) o_size o_point o_digits_c (.ref a1_row) a1_length a1_over a1_row_n a1_row_c) s.heap.size)) (F0 m 42 ls []) := by
    intro k12 hk12
    intro v2 v3 v4 a1_lengthq a1_overq a1_row_cq ls H locs hl hS hP hD hf
    have hf : ((f_Dc_digit ((v4 + o_point) - v3) o_size o_digits_c).bind fun u55 => (f_By_add ((48 : Int32) + u55) a1_row_n a1_lengthq a1_overq a1_row_cq).bind fun u59 => k12 v2 v3 (v4 + 1) a1_row_n o_point o_size o_digits_c u59.1 u59.2.1 u59.2.2) = some r := hf
    refine lv_aload_n S.1 S.2.1 d_Dc_addWhole_42 rfl (lv_at hl 1 rfl) ?_
    refine lv_bipush (v := 48) S.1 S.2.1 d_Dc_addWhole_43 (by decide) ?_
    refine lv_aload_n S.1 S.2.1 d_Dc_addWhole_45 rfl (lv_at hl 0 rfl) ?_
    refine lv_iload S.1 S.2.1 d_Dc_addWhole_46 (lv_at hl 4 rfl) ?_
    refine lv_aload_n S.1 S.2.1 d_Dc_addWhole_48 rfl (lv_at hl 0 rfl) ?_
    refine gx_gf (v := .int o_point) S E hP 0 rfl rfl i_Dc 4 rfl wd_213 ⟨rfl, rfl, rfl⟩ rfl d_Dc_addWhole_49 ?_
    refine lv_iadd S.1 S.2.1 d_Dc_addWhole_52 ?_
    refine lv_iload_n S.1 S.2.1 d_Dc_addWhole_53 rfl (lv_at hl 3 rfl) ?_
    refine lv_isub S.1 S.2.1 d_Dc_addWhole_54 ?_
    obtain ⟨u55, hc55, hf⟩ := gx_bnd hf
    refine gx_Vi (ws2 := (ww_Dc_addWhole g o o_digits a1 a1_row o_number_v o_chunks_v (.ref o_digits) o_size o_point o_digits_c (.ref a1_row) a1_lengthq a1_overq a1_row_n a1_row_cq)) S E hS hP hD (c_Dc_digit l z D g o o_digits o_number_v o_chunks_v o_size o_point o_digits_c ((v4 + o_point) - v3) u55 hc55) cal_Dc_digit wd_598 wd_599 wd_597 rfl [0, 1] rfl rfl rfl (gx_rc E hP 0 rfl rfl) rfl hl.1 rfl d_Dc_addWhole_55 ⟨Nat.zero_le _, Nat.zero_le _⟩ rfl (fun H locs hS hP hD => ?_)
    refine lv_iadd S.1 S.2.1 d_Dc_addWhole_58 ?_
    obtain ⟨u59, hc59, hf⟩ := gx_bnd hf
    refine gx_Vv (ws2 := (ww_Dc_addWhole g o o_digits a1 a1_row o_number_v o_chunks_v (.ref o_digits) o_size o_point o_digits_c (.ref a1_row) u59.1 u59.2.1 a1_row_n u59.2.2)) S E hS hP hD (c_By_add l z D g a1 a1_row a1_lengthq a1_overq a1_row_n a1_row_cq ((48 : Int32) + u55) u59 hc59) cal_By_add wd_479 wd_480 wd_596 rfl [2, 3] rfl rfl rfl (gx_rc E hP 2 rfl rfl) rfl hl.1 rfl d_Dc_addWhole_59 ⟨Nat.zero_le _, Nat.zero_le _⟩ rfl (fun H locs hS hP hD => ?_)
    refine lv_iinc (v := v4 + 1) (lv' := [(4, .int (v4 + 1)), (0, .ref o), (1, .ref a1), (2, .int v2), (3, .int v3)]) S.1 S.2.1 d_Dc_addWhole_62 hl (k := 4) rfl rfl (by decide) rfl (fun ls hl => ?_)
    refine lv_goto (tgt := 12) S.1 S.2.1 d_Dc_addWhole_65 (by decide) ?_
    exact hk12 v2 v3 (v4 + 1) u59.1 u59.2.1 u59.2.2 ls _ _ (lv_sub hl [1, 2, 3, 4, 0] rfl) hS hP hD hf
  have c_12 : ∀ n : Nat, ∀ (v2 : Int32) (v3 : Int32) (v4 : Int32) (a1_lengthq : Int32) (a1_overq : Int32) (a1_row_cq : Nat → Int32) (ls : Array Slot) (H : Heap) (locs : List Loc), lv_has ls 5 [(0, .ref o), (1, .ref a1), (2, .int v2), (3, .int v3), (4, .int v4)] → va_S (va_A (ww_Dc_addWhole g o o_digits a1 a1_row o_number_v o_chunks_v (.ref o_digits) o_size o_point o_digits_c (.ref a1_row) a1_length a1_over a1_row_n a1_row_c) s.heap.size) s.heap H locs → va_P D vwC (ww_Dc_addWhole g o o_digits a1 a1_row o_number_v o_chunks_v (.ref o_digits) o_size o_point o_digits_c (.ref a1_row) a1_lengthq a1_overq a1_row_n a1_row_cq) H → va_D (va_A (ww_Dc_addWhole g o o_digits a1 a1_row o_number_v o_chunks_v (.ref o_digits) o_size o_point o_digits_c (.ref a1_row) a1_length a1_over a1_row_n a1_row_c) s.heap.size) (ww_Dc_addWhole g o o_digits a1 a1_row o_number_v o_chunks_v (.ref o_digits) o_size o_point o_digits_c (.ref a1_row) a1_lengthq a1_overq a1_row_n a1_row_cq) → (f_Dc_addWhole_12 n v2 v3 v4 a1_row_n o_point o_size o_digits_c a1_lengthq a1_overq a1_row_cq) = some r → W p l e ({ frames := 1, cells := 0, slots := 0, locals := 21 } : Room) s m ([.ref o, .ref a1, .int a2] : List Value).toArray below meth c H locs 0 0 (MQ below (gx_Qv D (ww_Dc_addWhole g o o_digits a1 a1_row o_number_v o_chunks_v (.ref o_digits) o_size o_point o_digits_c (.ref a1_row) a1_length a1_over a1_row_n a1_row_c) (ww_Dc_addWhole g o o_digits a1 a1_row o_number_v o_chunks_v (.ref o_digits) o_size o_point o_digits_c (.ref a1_row) r.1 r.2.1 a1_row_n r.2.2) s.heap.size) ([.ref o, .ref a1, .int a2] : List Value).toArray s 0 0 (va_A (ww_Dc_addWhole g o o_digits a1 a1_row o_number_v o_chunks_v (.ref o_digits) o_size o_point o_digits_c (.ref a1_row) a1_length a1_over a1_row_n a1_row_c) s.heap.size)) (F0 m 12 ls []) := by
    intro n
    induction n with
    | zero => intro v2 v3 v4 a1_lengthq a1_overq a1_row_cq ls H locs hl hS hP hD hf; cases hf
    | succ n ih =>
      intro v2 v3 v4 a1_lengthq a1_overq a1_row_cq ls H locs hl hS hP hD hf
      have hf : (if v3 ≤ v4 then (some (a1_lengthq, a1_overq, a1_row_cq)) else (if v2 = 0 then (f_Dc_addWhole_42 (fun v2 v3 v4 a1_row_n o_point o_size o_digits_c a1_lengthq a1_overq a1_row_cq => f_Dc_addWhole_12 n v2 v3 v4 a1_row_n o_point o_size o_digits_c a1_lengthq a1_overq a1_row_cq) v2 v3 v4 a1_row_n o_point o_size o_digits_c a1_lengthq a1_overq a1_row_cq) else (if v4 ≤ 0 then (f_Dc_addWhole_42 (fun v2 v3 v4 a1_row_n o_point o_size o_digits_c a1_lengthq a1_overq a1_row_cq => f_Dc_addWhole_12 n v2 v3 v4 a1_row_n o_point o_size o_digits_c a1_lengthq a1_overq a1_row_cq) v2 v3 v4 a1_row_n o_point o_size o_digits_c a1_lengthq a1_overq a1_row_cq) else (if ((v3 - v4) - (v3 - v4) / (3 : Int32) * (3 : Int32)) = 0 then ((f_By_add (44 : Int32) a1_row_n a1_lengthq a1_overq a1_row_cq).bind fun u39 => f_Dc_addWhole_42 (fun v2 v3 v4 a1_row_n o_point o_size o_digits_c a1_lengthq a1_overq a1_row_cq => f_Dc_addWhole_12 n v2 v3 v4 a1_row_n o_point o_size o_digits_c a1_lengthq a1_overq a1_row_cq) v2 v3 v4 a1_row_n o_point o_size o_digits_c u39.1 u39.2.1 u39.2.2) else (f_Dc_addWhole_42 (fun v2 v3 v4 a1_row_n o_point o_size o_digits_c a1_lengthq a1_overq a1_row_cq => f_Dc_addWhole_12 n v2 v3 v4 a1_row_n o_point o_size o_digits_c a1_lengthq a1_overq a1_row_cq) v2 v3 v4 a1_row_n o_point o_size o_digits_c a1_lengthq a1_overq a1_row_cq))))) = some r := hf
      refine lv_iload S.1 S.2.1 d_Dc_addWhole_12 (lv_at hl 4 rfl) ?_
      refine lv_iload_n S.1 S.2.1 d_Dc_addWhole_14 rfl (lv_at hl 3 rfl) ?_
      refine lv_icmp_ge (tgt := 68) S.1 S.2.1 d_Dc_addWhole_15 (by decide) (fun h => ?_) (fun h => ?_)
      ·
        have hf := gx_ifp h hf
        obtain rfl := Option.some.inj hf
        exact gx_rv S hr hlk hS hP hD d_Dc_addWhole_68
      ·
        have hf := gx_ifn h hf
        refine lv_iload_n S.1 S.2.1 d_Dc_addWhole_18 rfl (lv_at hl 2 rfl) ?_
        refine lv_if_eq (tgt := 42) S.1 S.2.1 d_Dc_addWhole_19 (by decide) (fun h => ?_) (fun h => ?_)
        ·
          have hf := gx_ifp h hf
          exact c_42 (fun v2 v3 v4 a1_row_n o_point o_size o_digits_c a1_lengthq a1_overq a1_row_cq => f_Dc_addWhole_12 n v2 v3 v4 a1_row_n o_point o_size o_digits_c a1_lengthq a1_overq a1_row_cq) ih v2 v3 v4 a1_lengthq a1_overq a1_row_cq ls _ _ (lv_sub hl [0, 1, 2, 3, 4] rfl) hS hP hD hf
        ·
          have hf := gx_ifn h hf
          refine lv_iload S.1 S.2.1 d_Dc_addWhole_22 (lv_at hl 4 rfl) ?_
          refine lv_if_le (tgt := 42) S.1 S.2.1 d_Dc_addWhole_24 (by decide) (fun h => ?_) (fun h => ?_)
          ·
            have hf := gx_ifp h hf
            exact c_42 (fun v2 v3 v4 a1_row_n o_point o_size o_digits_c a1_lengthq a1_overq a1_row_cq => f_Dc_addWhole_12 n v2 v3 v4 a1_row_n o_point o_size o_digits_c a1_lengthq a1_overq a1_row_cq) ih v2 v3 v4 a1_lengthq a1_overq a1_row_cq ls _ _ (lv_sub hl [0, 1, 2, 3, 4] rfl) hS hP hD hf
          ·
            have hf := gx_ifn h hf
            refine lv_iload_n S.1 S.2.1 d_Dc_addWhole_27 rfl (lv_at hl 3 rfl) ?_
            refine lv_iload S.1 S.2.1 d_Dc_addWhole_28 (lv_at hl 4 rfl) ?_
            refine lv_isub S.1 S.2.1 d_Dc_addWhole_30 ?_
            refine lv_iconst (v := 3) S.1 S.2.1 d_Dc_addWhole_31 (by decide) ?_
            refine lv_irem S.1 S.2.1 d_Dc_addWhole_32 (by decide) ?_
            refine lv_if_ne (tgt := 42) S.1 S.2.1 d_Dc_addWhole_33 (by decide) (fun h => ?_) (fun h => ?_)
            ·
              have hf := gx_ifn h hf
              exact c_42 (fun v2 v3 v4 a1_row_n o_point o_size o_digits_c a1_lengthq a1_overq a1_row_cq => f_Dc_addWhole_12 n v2 v3 v4 a1_row_n o_point o_size o_digits_c a1_lengthq a1_overq a1_row_cq) ih v2 v3 v4 a1_lengthq a1_overq a1_row_cq ls _ _ (lv_sub hl [0, 1, 2, 3, 4] rfl) hS hP hD hf
            ·
              have hf := gx_ifp h hf
              refine lv_aload_n S.1 S.2.1 d_Dc_addWhole_36 rfl (lv_at hl 1 rfl) ?_
              refine lv_bipush (v := 44) S.1 S.2.1 d_Dc_addWhole_37 (by decide) ?_
              obtain ⟨u39, hc39, hf⟩ := gx_bnd hf
              refine gx_Vv (ws2 := (ww_Dc_addWhole g o o_digits a1 a1_row o_number_v o_chunks_v (.ref o_digits) o_size o_point o_digits_c (.ref a1_row) u39.1 u39.2.1 a1_row_n u39.2.2)) S E hS hP hD (c_By_add l z D g a1 a1_row a1_lengthq a1_overq a1_row_n a1_row_cq (44 : Int32) u39 hc39) cal_By_add wd_479 wd_480 wd_596 rfl [2, 3] rfl rfl rfl (gx_rc E hP 2 rfl rfl) rfl hl.1 rfl d_Dc_addWhole_39 ⟨Nat.zero_le _, Nat.zero_le _⟩ rfl (fun H locs hS hP hD => ?_)
              exact c_42 (fun v2 v3 v4 a1_row_n o_point o_size o_digits_c a1_lengthq a1_overq a1_row_cq => f_Dc_addWhole_12 n v2 v3 v4 a1_row_n o_point o_size o_digits_c a1_lengthq a1_overq a1_row_cq) ih v2 v3 v4 u39.1 u39.2.1 u39.2.2 ls _ _ (lv_sub hl [0, 1, 2, 3, 4] rfl) hS hP hD hf
  have hf : ((f_JMath_max o_point (1 : Int32)).bind fun u5 => f_Dc_addWhole_12 gx_fu a2 u5 (0 : Int32) a1_row_n o_point o_size o_digits_c a1_length a1_over a1_row_c) = some r := hf
  refine lv_aload_n S.1 S.2.1 d_Dc_addWhole_0 rfl (lv_at hl 0 rfl) ?_
  refine gx_gf (v := .int o_point) S E hP 0 rfl rfl i_Dc 4 rfl wd_213 ⟨rfl, rfl, rfl⟩ rfl d_Dc_addWhole_1 ?_
  refine lv_iconst (v := 1) S.1 S.2.1 d_Dc_addWhole_4 (by decide) ?_
  obtain ⟨u5, hc5, hf⟩ := gx_bnd hf
  refine gx_Si (ws2 := (ww_Dc_addWhole g o o_digits a1 a1_row o_number_v o_chunks_v (.ref o_digits) o_size o_point o_digits_c (.ref a1_row) a1_length a1_over a1_row_n a1_row_c)) S E hS hP hD (c_JMath_max l z D g o_point (1 : Int32) u5 hc5) cal_JMath_max wd_411 wd_595 rfl [] rfl rfl rfl rfl hl.1 rfl d_Dc_addWhole_5 ⟨Nat.zero_le _, Nat.zero_le _⟩ rfl (fun H locs hS hP hD => ?_)
  refine lv_istore_n (lv' := [(3, .int u5), (0, .ref o), (1, .ref a1), (2, .int a2)]) S.1 S.2.1 d_Dc_addWhole_8 rfl hl (by decide) rfl (fun ls hl => ?_)
  refine lv_iconst (v := 0) S.1 S.2.1 d_Dc_addWhole_9 (by decide) ?_
  refine lv_istore (lv' := [(4, .int (0 : Int32)), (3, .int u5), (0, .ref o), (1, .ref a1), (2, .int a2)]) S.1 S.2.1 d_Dc_addWhole_10 hl (by decide) rfl (fun ls hl => ?_)
  exact c_12 gx_fu a2 u5 (0 : Int32) a1_length a1_over a1_row_c ls _ _ (lv_sub hl [2, 3, 4, 1, 0] rfl) hS hP hD hf
theorem d_Dc_addDigits_0 : decode b_Dc_addDigits 0 = .ok (.iload_n 3, 1) := by decide +kernel
theorem d_Dc_addDigits_1 : decode b_Dc_addDigits 1 = .ok (.aload_n 0, 1) := by decide +kernel
theorem d_Dc_addDigits_2 : decode b_Dc_addDigits 2 = .ok (.getfield 24, 3) := by decide +kernel
theorem d_Dc_addDigits_5 : decode b_Dc_addDigits 5 = .ok (.iload_n 2, 1) := by decide +kernel
theorem d_Dc_addDigits_6 : decode b_Dc_addDigits 6 = .ok (.isub, 1) := by decide +kernel
theorem d_Dc_addDigits_7 : decode b_Dc_addDigits 7 = .ok (.iconst 0, 1) := by decide +kernel
theorem d_Dc_addDigits_8 : decode b_Dc_addDigits 8 = .ok (.invokestatic 77, 3) := by decide +kernel
theorem d_Dc_addDigits_11 : decode b_Dc_addDigits 11 = .ok (.invokestatic 58, 3) := by decide +kernel
theorem d_Dc_addDigits_14 : decode b_Dc_addDigits 14 = .ok (.istore 4, 2) := by decide +kernel
theorem d_Dc_addDigits_16 : decode b_Dc_addDigits 16 = .ok (.iconst 0, 1) := by decide +kernel
theorem d_Dc_addDigits_17 : decode b_Dc_addDigits 17 = .ok (.istore 5, 2) := by decide +kernel
theorem d_Dc_addDigits_19 : decode b_Dc_addDigits 19 = .ok (.iload 5, 2) := by decide +kernel
theorem d_Dc_addDigits_21 : decode b_Dc_addDigits 21 = .ok (.iload 4, 2) := by decide +kernel
theorem d_Dc_addDigits_23 : decode b_Dc_addDigits 23 = .ok (.if_icmp .ge 24, 3) := by decide +kernel
theorem d_Dc_addDigits_26 : decode b_Dc_addDigits 26 = .ok (.aload_n 1, 1) := by decide +kernel
theorem d_Dc_addDigits_27 : decode b_Dc_addDigits 27 = .ok (.bipush 48, 2) := by decide +kernel
theorem d_Dc_addDigits_29 : decode b_Dc_addDigits 29 = .ok (.aload_n 0, 1) := by decide +kernel
theorem d_Dc_addDigits_30 : decode b_Dc_addDigits 30 = .ok (.iload_n 2, 1) := by decide +kernel
theorem d_Dc_addDigits_31 : decode b_Dc_addDigits 31 = .ok (.iload 5, 2) := by decide +kernel
theorem d_Dc_addDigits_33 : decode b_Dc_addDigits 33 = .ok (.iadd, 1) := by decide +kernel
theorem d_Dc_addDigits_34 : decode b_Dc_addDigits 34 = .ok (.invokevirtual 73, 3) := by decide +kernel
theorem d_Dc_addDigits_37 : decode b_Dc_addDigits 37 = .ok (.iadd, 1) := by decide +kernel
theorem d_Dc_addDigits_38 : decode b_Dc_addDigits 38 = .ok (.invokevirtual 83, 3) := by decide +kernel
theorem d_Dc_addDigits_41 : decode b_Dc_addDigits 41 = .ok (.iinc 5 1, 3) := by decide +kernel
theorem d_Dc_addDigits_44 : decode b_Dc_addDigits 44 = .ok (.goto (-25), 3) := by decide +kernel
theorem d_Dc_addDigits_47 : decode b_Dc_addDigits 47 = .ok (.aload_n 1, 1) := by decide +kernel
theorem d_Dc_addDigits_48 : decode b_Dc_addDigits 48 = .ok (.bipush 48, 2) := by decide +kernel
theorem d_Dc_addDigits_50 : decode b_Dc_addDigits 50 = .ok (.iload_n 3, 1) := by decide +kernel
theorem d_Dc_addDigits_51 : decode b_Dc_addDigits 51 = .ok (.iload 4, 2) := by decide +kernel
theorem d_Dc_addDigits_53 : decode b_Dc_addDigits 53 = .ok (.isub, 1) := by decide +kernel
theorem d_Dc_addDigits_54 : decode b_Dc_addDigits 54 = .ok (.invokevirtual 88, 3) := by decide +kernel
theorem d_Dc_addDigits_57 : decode b_Dc_addDigits 57 = .ok (.return_, 1) := by decide +kernel
theorem cal_Dc_addDigits : gx_cal y_Dc_addDigits b_Dc_addDigits 6 none 3 := ⟨wd_604, wd_10, by decide +kernel⟩
def ww_Dc_addDigits (g : Nat → ClassId) (o : Nat) (a1 : Nat) (a1_row : Nat) (o_digits : Nat) (x_o_number : Value) (x_o_chunks : Value) (x_o_digits : Value) (x_o_size : Int32) (x_o_point : Int32) (x_a1_row : Value) (x_a1_length : Int32) (x_a1_over : Int32) (a1_row_n : Nat) (y_a1_row : Nat → Int32) (y_o_digits : Nat → Int32) : va_W := [(o, .inr (4, [x_o_number, x_o_chunks, x_o_digits, .int x_o_size, .int x_o_point])), (a1, .inr (3, [x_a1_row, .int x_a1_length, .int x_a1_over])), (a1_row, .inl (g 1, a1_row_n, .inl y_a1_row)), (o_digits, .inl (g 1, 792, .inl y_o_digits))]
def f_Dc_addDigits_19 : Nat → Int32 → Int32 → Int32 → Int32 → Nat → Int32 → Int32 → Int32 → (Nat → Int32) → (Nat → Int32) → Option (Int32 × Int32 × (Nat → Int32))
  | 0, _, _, _, _, _, _, _, _, _, _ => none
  | n + 1, v2, v3, v4, v5, a1_row_n, o_size, a1_lengthq, a1_overq, o_digits_c, a1_row_cq => if v4 ≤ v5 then ((f_By_addTimes (48 : Int32) (v3 - v4) a1_row_n a1_lengthq a1_overq a1_row_cq).bind fun u54 => some (u54.1, u54.2.1, u54.2.2)) else ((f_Dc_digit (v2 + v5) o_size o_digits_c).bind fun u34 => (f_By_add ((48 : Int32) + u34) a1_row_n a1_lengthq a1_overq a1_row_cq).bind fun u38 => f_Dc_addDigits_19 n v2 v3 v4 (v5 + 1) a1_row_n o_size u38.1 u38.2.1 o_digits_c u38.2.2)
def f_Dc_addDigits (a2 : Int32) (a3 : Int32) (a1_row_n : Nat) (o_size : Int32) (a1_length : Int32) (a1_over : Int32) (o_digits_c : Nat → Int32) (a1_row_c : Nat → Int32) : Option (Int32 × Int32 × (Nat → Int32)) := (f_JMath_max (o_size - a2) (0 : Int32)).bind fun u8 => (f_JMath_min a3 u8).bind fun u11 => f_Dc_addDigits_19 gx_fu a2 a3 u11 (0 : Int32) a1_row_n o_size a1_length a1_over o_digits_c a1_row_c
set_option maxHeartbeats 4000000 in
set_option maxRecDepth 100000 in
theorem c_Dc_addDigits (l : Launch) (z : State) (D : va_G) (g : Nat → ClassId) (o : Nat) (a1 : Nat) (a1_row : Nat) (o_digits : Nat) (o_number_v : Value) (o_chunks_v : Value) (o_size : Int32) (o_point : Int32) (a1_length : Int32) (a1_over : Int32) (a1_row_n : Nat) (a1_row_c : Nat → Int32) (o_digits_c : Nat → Int32) (a2 : Int32) (a3 : Int32) (r : Int32 × Int32 × (Nat → Int32)) (hf : f_Dc_addDigits a2 a3 a1_row_n o_size a1_length a1_over o_digits_c a1_row_c = some r) : gx_Mv l z D g y_Dc_addDigits b_Dc_addDigits 6 ({ frames := 2, cells := 0, slots := 0, locals := 45 } : Room) [.ref o, .ref a1, .int a2, .int a3] (ww_Dc_addDigits g o a1 a1_row o_digits o_number_v o_chunks_v (.ref o_digits) o_size o_point (.ref a1_row) a1_length a1_over a1_row_n a1_row_c o_digits_c) (ww_Dc_addDigits g o a1 a1_row o_digits o_number_v o_chunks_v (.ref o_digits) o_size o_point (.ref a1_row) r.1 r.2.1 a1_row_n r.2.2 o_digits_c) := by
  refine gx_go (by decide +kernel) rfl ?_
  intro p e s m below meth c ls S hr hlk hnm E hP hD hl
  have hS : va_S (va_A (ww_Dc_addDigits g o a1 a1_row o_digits o_number_v o_chunks_v (.ref o_digits) o_size o_point (.ref a1_row) a1_length a1_over a1_row_n a1_row_c o_digits_c) s.heap.size) s.heap s.heap [] := va_S.rf
  have hl : lv_has ls 6 [(0, .ref o), (1, .ref a1), (2, .int a2), (3, .int a3)] := hl
  have c_19 : ∀ n : Nat, ∀ (v2 : Int32) (v3 : Int32) (v4 : Int32) (v5 : Int32) (a1_lengthq : Int32) (a1_overq : Int32) (a1_row_cq : Nat → Int32) (ls : Array Slot) (H : Heap) (locs : List Loc), lv_has ls 6 [(0, .ref o), (1, .ref a1), (2, .int v2), (3, .int v3), (4, .int v4), (5, .int v5)] → va_S (va_A (ww_Dc_addDigits g o a1 a1_row o_digits o_number_v o_chunks_v (.ref o_digits) o_size o_point (.ref a1_row) a1_length a1_over a1_row_n a1_row_c o_digits_c) s.heap.size) s.heap H locs → va_P D vwC (ww_Dc_addDigits g o a1 a1_row o_digits o_number_v o_chunks_v (.ref o_digits) o_size o_point (.ref a1_row) a1_lengthq a1_overq a1_row_n a1_row_cq o_digits_c) H → va_D (va_A (ww_Dc_addDigits g o a1 a1_row o_digits o_number_v o_chunks_v (.ref o_digits) o_size o_point (.ref a1_row) a1_length a1_over a1_row_n a1_row_c o_digits_c) s.heap.size) (ww_Dc_addDigits g o a1 a1_row o_digits o_number_v o_chunks_v (.ref o_digits) o_size o_point (.ref a1_row) a1_lengthq a1_overq a1_row_n a1_row_cq o_digits_c) → (f_Dc_addDigits_19 n v2 v3 v4 v5 a1_row_n o_size a1_lengthq a1_overq o_digits_c a1_row_cq) = some r → W p l e ({ frames := 2, cells := 0, slots := 0, locals := 45 } : Room) s m ([.ref o, .ref a1, .int a2, .int a3] : List Value).toArray below meth c H locs 0 0 (MQ below (gx_Qv D (ww_Dc_addDigits g o a1 a1_row o_digits o_number_v o_chunks_v (.ref o_digits) o_size o_point (.ref a1_row) a1_length a1_over a1_row_n a1_row_c o_digits_c) (ww_Dc_addDigits g o a1 a1_row o_digits o_number_v o_chunks_v (.ref o_digits) o_size o_point (.ref a1_row) r.1 r.2.1 a1_row_n r.2.2 o_digits_c) s.heap.size) ([.ref o, .ref a1, .int a2, .int a3] : List Value).toArray s 0 0 (va_A (ww_Dc_addDigits g o a1 a1_row o_digits o_number_v o_chunks_v (.ref o_digits) o_size o_point (.ref a1_row) a1_length a1_over a1_row_n a1_row_c o_digits_c) s.heap.size)) (F0 m 19 ls []) := by
    intro n
    induction n with
    | zero => intro v2 v3 v4 v5 a1_lengthq a1_overq a1_row_cq ls H locs hl hS hP hD hf; cases hf
    | succ n ih =>
      intro v2 v3 v4 v5 a1_lengthq a1_overq a1_row_cq ls H locs hl hS hP hD hf
      have hf : (if v4 ≤ v5 then ((f_By_addTimes (48 : Int32) (v3 - v4) a1_row_n a1_lengthq a1_overq a1_row_cq).bind fun u54 => some (u54.1, u54.2.1, u54.2.2)) else ((f_Dc_digit (v2 + v5) o_size o_digits_c).bind fun u34 => (f_By_add ((48 : Int32) + u34) a1_row_n a1_lengthq a1_overq a1_row_cq).bind fun u38 => f_Dc_addDigits_19 n v2 v3 v4 (v5 + 1) a1_row_n o_size u38.1 u38.2.1 o_digits_c u38.2.2)) = some r := hf
      refine lv_iload S.1 S.2.1 d_Dc_addDigits_19 (lv_at hl 5 rfl) ?_
      refine lv_iload S.1 S.2.1 d_Dc_addDigits_21 (lv_at hl 4 rfl) ?_
      refine lv_icmp_ge (tgt := 47) S.1 S.2.1 d_Dc_addDigits_23 (by decide) (fun h => ?_) (fun h => ?_)
      ·
        have hf := gx_ifp h hf
        refine lv_aload_n S.1 S.2.1 d_Dc_addDigits_47 rfl (lv_at hl 1 rfl) ?_
        refine lv_bipush (v := 48) S.1 S.2.1 d_Dc_addDigits_48 (by decide) ?_
        refine lv_iload_n S.1 S.2.1 d_Dc_addDigits_50 rfl (lv_at hl 3 rfl) ?_
        refine lv_iload S.1 S.2.1 d_Dc_addDigits_51 (lv_at hl 4 rfl) ?_
        refine lv_isub S.1 S.2.1 d_Dc_addDigits_53 ?_
        obtain ⟨u54, hc54, hf⟩ := gx_bnd hf
        refine gx_Vv (ws2 := (ww_Dc_addDigits g o a1 a1_row o_digits o_number_v o_chunks_v (.ref o_digits) o_size o_point (.ref a1_row) u54.1 u54.2.1 a1_row_n u54.2.2 o_digits_c)) S E hS hP hD (c_By_addTimes l z D g a1 a1_row a1_lengthq a1_overq a1_row_n a1_row_cq (48 : Int32) (v3 - v4) u54 hc54) cal_By_addTimes wd_607 wd_608 wd_606 rfl [1, 2] rfl rfl rfl (gx_rc E hP 1 rfl rfl) rfl hl.1 rfl d_Dc_addDigits_54 ⟨Nat.zero_le _, Nat.zero_le _⟩ rfl (fun H locs hS hP hD => ?_)
        obtain rfl := Option.some.inj hf
        exact gx_rv S hr hlk hS hP hD d_Dc_addDigits_57
      ·
        have hf := gx_ifn h hf
        refine lv_aload_n S.1 S.2.1 d_Dc_addDigits_26 rfl (lv_at hl 1 rfl) ?_
        refine lv_bipush (v := 48) S.1 S.2.1 d_Dc_addDigits_27 (by decide) ?_
        refine lv_aload_n S.1 S.2.1 d_Dc_addDigits_29 rfl (lv_at hl 0 rfl) ?_
        refine lv_iload_n S.1 S.2.1 d_Dc_addDigits_30 rfl (lv_at hl 2 rfl) ?_
        refine lv_iload S.1 S.2.1 d_Dc_addDigits_31 (lv_at hl 5 rfl) ?_
        refine lv_iadd S.1 S.2.1 d_Dc_addDigits_33 ?_
        obtain ⟨u34, hc34, hf⟩ := gx_bnd hf
        refine gx_Vi (ws2 := (ww_Dc_addDigits g o a1 a1_row o_digits o_number_v o_chunks_v (.ref o_digits) o_size o_point (.ref a1_row) a1_lengthq a1_overq a1_row_n a1_row_cq o_digits_c)) S E hS hP hD (c_Dc_digit l z D g o o_digits o_number_v o_chunks_v o_size o_point o_digits_c (v2 + v5) u34 hc34) cal_Dc_digit wd_598 wd_599 wd_597 rfl [0, 3] rfl rfl rfl (gx_rc E hP 0 rfl rfl) rfl hl.1 rfl d_Dc_addDigits_34 ⟨Nat.zero_le _, Nat.zero_le _⟩ rfl (fun H locs hS hP hD => ?_)
        refine lv_iadd S.1 S.2.1 d_Dc_addDigits_37 ?_
        obtain ⟨u38, hc38, hf⟩ := gx_bnd hf
        refine gx_Vv (ws2 := (ww_Dc_addDigits g o a1 a1_row o_digits o_number_v o_chunks_v (.ref o_digits) o_size o_point (.ref a1_row) u38.1 u38.2.1 a1_row_n u38.2.2 o_digits_c)) S E hS hP hD (c_By_add l z D g a1 a1_row a1_lengthq a1_overq a1_row_n a1_row_cq ((48 : Int32) + u34) u38 hc38) cal_By_add wd_479 wd_480 wd_596 rfl [1, 2] rfl rfl rfl (gx_rc E hP 1 rfl rfl) rfl hl.1 rfl d_Dc_addDigits_38 ⟨Nat.zero_le _, Nat.zero_le _⟩ rfl (fun H locs hS hP hD => ?_)
        refine lv_iinc (v := v5 + 1) (lv' := [(5, .int (v5 + 1)), (0, .ref o), (1, .ref a1), (2, .int v2), (3, .int v3), (4, .int v4)]) S.1 S.2.1 d_Dc_addDigits_41 hl (k := 5) rfl rfl (by decide) rfl (fun ls hl => ?_)
        refine lv_goto (tgt := 19) S.1 S.2.1 d_Dc_addDigits_44 (by decide) ?_
        exact ih v2 v3 v4 (v5 + 1) u38.1 u38.2.1 u38.2.2 ls _ _ (lv_sub hl [1, 2, 3, 4, 5, 0] rfl) hS hP hD hf
  have hf : ((f_JMath_max (o_size - a2) (0 : Int32)).bind fun u8 => (f_JMath_min a3 u8).bind fun u11 => f_Dc_addDigits_19 gx_fu a2 a3 u11 (0 : Int32) a1_row_n o_size a1_length a1_over o_digits_c a1_row_c) = some r := hf
  refine lv_iload_n S.1 S.2.1 d_Dc_addDigits_0 rfl (lv_at hl 3 rfl) ?_
  refine lv_aload_n S.1 S.2.1 d_Dc_addDigits_1 rfl (lv_at hl 0 rfl) ?_
  refine gx_gf (v := .int o_size) S E hP 0 rfl rfl i_Dc 3 rfl wd_211 ⟨rfl, rfl, rfl⟩ rfl d_Dc_addDigits_2 ?_
  refine lv_iload_n S.1 S.2.1 d_Dc_addDigits_5 rfl (lv_at hl 2 rfl) ?_
  refine lv_isub S.1 S.2.1 d_Dc_addDigits_6 ?_
  refine lv_iconst (v := 0) S.1 S.2.1 d_Dc_addDigits_7 (by decide) ?_
  obtain ⟨u8, hc8, hf⟩ := gx_bnd hf
  refine gx_Si (ws2 := (ww_Dc_addDigits g o a1 a1_row o_digits o_number_v o_chunks_v (.ref o_digits) o_size o_point (.ref a1_row) a1_length a1_over a1_row_n a1_row_c o_digits_c)) S E hS hP hD (c_JMath_max l z D g (o_size - a2) (0 : Int32) u8 hc8) cal_JMath_max wd_411 wd_595 rfl [] rfl rfl rfl rfl hl.1 rfl d_Dc_addDigits_8 ⟨Nat.zero_le _, Nat.zero_le _⟩ rfl (fun H locs hS hP hD => ?_)
  obtain ⟨u11, hc11, hf⟩ := gx_bnd hf
  refine gx_Si (ws2 := (ww_Dc_addDigits g o a1 a1_row o_digits o_number_v o_chunks_v (.ref o_digits) o_size o_point (.ref a1_row) a1_length a1_over a1_row_n a1_row_c o_digits_c)) S E hS hP hD (c_JMath_min l z D g a3 u8 u11 hc11) cal_JMath_min wd_419 wd_605 rfl [] rfl rfl rfl rfl hl.1 rfl d_Dc_addDigits_11 ⟨Nat.zero_le _, Nat.zero_le _⟩ rfl (fun H locs hS hP hD => ?_)
  refine lv_istore (lv' := [(4, .int u11), (0, .ref o), (1, .ref a1), (2, .int a2), (3, .int a3)]) S.1 S.2.1 d_Dc_addDigits_14 hl (by decide) rfl (fun ls hl => ?_)
  refine lv_iconst (v := 0) S.1 S.2.1 d_Dc_addDigits_16 (by decide) ?_
  refine lv_istore (lv' := [(5, .int (0 : Int32)), (4, .int u11), (0, .ref o), (1, .ref a1), (2, .int a2), (3, .int a3)]) S.1 S.2.1 d_Dc_addDigits_17 hl (by decide) rfl (fun ls hl => ?_)
  exact c_19 gx_fu a2 a3 u11 (0 : Int32) a1_length a1_over a1_row_c ls _ _ (lv_sub hl [2, 3, 4, 5, 1, 0] rfl) hS hP hD hf
