theorem d_By_keep_0 : decode b_By_keep 0 = .ok (.aload_n 0, 1) := by decide +kernel
theorem d_By_keep_1 : decode b_By_keep 1 = .ok (.iload_n 1, 1) := by decide +kernel
theorem d_By_keep_2 : decode b_By_keep 2 = .ok (.iconst 0, 1) := by decide +kernel
theorem d_By_keep_3 : decode b_By_keep 3 = .ok (.invokestatic 23, 3) := by decide +kernel
theorem d_By_keep_6 : decode b_By_keep 6 = .ok (.aload_n 0, 1) := by decide +kernel
theorem d_By_keep_7 : decode b_By_keep 7 = .ok (.getfield 9, 3) := by decide +kernel
theorem d_By_keep_10 : decode b_By_keep 10 = .ok (.invokestatic 29, 3) := by decide +kernel
theorem d_By_keep_13 : decode b_By_keep 13 = .ok (.putfield 9, 3) := by decide +kernel
theorem d_By_keep_16 : decode b_By_keep 16 = .ok (.aload_n 0, 1) := by decide +kernel
theorem d_By_keep_17 : decode b_By_keep 17 = .ok (.iconst 0, 1) := by decide +kernel
theorem d_By_keep_18 : decode b_By_keep 18 = .ok (.putfield 15, 3) := by decide +kernel
theorem d_By_keep_21 : decode b_By_keep 21 = .ok (.return_, 1) := by decide +kernel
theorem cal_By_keep : gx_cal y_By_keep b_By_keep 2 none 1 := ⟨wd_416, wd_2, by decide +kernel⟩
def ww_By_keep (g : Nat → ClassId) (o : Nat) (x_o_row : Value) (x_o_length : Int32) (x_o_over : Int32) : va_W := [(o, .inr (3, [x_o_row, .int x_o_length, .int x_o_over]))]
def f_By_keep (a1 : Int32) (o_length : Int32) (o_over : Int32) : Option (Int32 × Int32) := (f_JMath_max a1 (0 : Int32)).bind fun u3 => (f_JMath_min u3 o_length).bind fun u10 => some (u10, (0 : Int32))
set_option maxHeartbeats 4000000 in
set_option maxRecDepth 100000 in
theorem c_By_keep (l : Launch) (z : State) (D : va_G) (g : Nat → ClassId) (o : Nat) (o_row_v : Value) (o_length : Int32) (o_over : Int32) (a1 : Int32) (r : Int32 × Int32) (hf : f_By_keep a1 o_length o_over = some r) : gx_Mv l z D g y_By_keep b_By_keep 2 ({ frames := 1, cells := 0, slots := 0, locals := 21 } : Room) [.ref o, .int a1] (ww_By_keep g o o_row_v o_length o_over) (ww_By_keep g o o_row_v r.1 r.2) := by
  refine gx_go (by decide +kernel) rfl ?_
  intro p e s m below meth c ls S hr hlk hnm E hP hD hl
  have hS : va_S (va_A (ww_By_keep g o o_row_v o_length o_over) s.heap.size) s.heap s.heap [] := va_S.rf
  have hl : lv_has ls 2 [(0, .ref o), (1, .int a1)] := hl
  have hf : ((f_JMath_max a1 (0 : Int32)).bind fun u3 => (f_JMath_min u3 o_length).bind fun u10 => some (u10, (0 : Int32))) = some r := hf
  refine lv_aload_n S.1 S.2.1 d_By_keep_0 rfl (lv_at hl 0 rfl) ?_
  refine lv_iload_n S.1 S.2.1 d_By_keep_1 rfl (lv_at hl 1 rfl) ?_
  refine lv_iconst (v := 0) S.1 S.2.1 d_By_keep_2 (by decide) ?_
  obtain ⟨u3, hc3, hf⟩ := gx_bnd hf
  refine gx_Si (ws2 := (ww_By_keep g o o_row_v o_length o_over)) S E hS hP hD (c_JMath_max l z D g a1 (0 : Int32) u3 hc3) cal_JMath_max wd_411 wd_417 rfl [] rfl rfl rfl rfl hl.1 rfl d_By_keep_3 ⟨Nat.zero_le _, Nat.zero_le _⟩ rfl (fun H locs hS hP hD => ?_)
  refine lv_aload_n S.1 S.2.1 d_By_keep_6 rfl (lv_at hl 0 rfl) ?_
  refine gx_gf (v := .int o_length) S E hP 0 rfl rfl i_By 1 rfl wd_48 ⟨rfl, rfl, rfl⟩ rfl d_By_keep_7 ?_
  obtain ⟨u10, hc10, hf⟩ := gx_bnd hf
  refine gx_Si (ws2 := (ww_By_keep g o o_row_v o_length o_over)) S E hS hP hD (c_JMath_min l z D g u3 o_length u10 hc10) cal_JMath_min wd_419 wd_418 rfl [] rfl rfl rfl rfl hl.1 rfl d_By_keep_10 ⟨Nat.zero_le _, Nat.zero_le _⟩ rfl (fun H locs hS hP hD => ?_)
  refine gx_pf (v := .int u10) (ws2 := (ww_By_keep g o o_row_v u10 o_over)) S E hS hP hD 0 rfl rfl i_By k_By n_By 1 rfl wd_48 ⟨rfl, rfl, rfl, rfl⟩ rfl rfl rfl d_By_keep_13 rfl (fun H locs hS hP hD => ?_)
  refine lv_aload_n S.1 S.2.1 d_By_keep_16 rfl (lv_at hl 0 rfl) ?_
  refine lv_iconst (v := 0) S.1 S.2.1 d_By_keep_17 (by decide) ?_
  refine gx_pf (v := .int (0 : Int32)) (ws2 := (ww_By_keep g o o_row_v u10 (0 : Int32))) S E hS hP hD 0 rfl rfl i_By k_By n_By 2 rfl wd_53 ⟨rfl, rfl, rfl, rfl⟩ (by decide +kernel) (by decide +kernel) rfl d_By_keep_18 rfl (fun H locs hS hP hD => ?_)
  obtain rfl := Option.some.inj hf
  exact gx_rv S hr hlk hS hP hD d_By_keep_21
theorem d_By_at_0 : decode b_By_at 0 = .ok (.iload_n 1, 1) := by decide +kernel
theorem d_By_at_1 : decode b_By_at 1 = .ok (.ifCond .lt 24, 3) := by decide +kernel
theorem d_By_at_4 : decode b_By_at 4 = .ok (.iload_n 1, 1) := by decide +kernel
theorem d_By_at_5 : decode b_By_at 5 = .ok (.aload_n 0, 1) := by decide +kernel
theorem d_By_at_6 : decode b_By_at 6 = .ok (.getfield 9, 3) := by decide +kernel
theorem d_By_at_9 : decode b_By_at 9 = .ok (.if_icmp .ge 16, 3) := by decide +kernel
theorem d_By_at_12 : decode b_By_at 12 = .ok (.aload_n 0, 1) := by decide +kernel
theorem d_By_at_13 : decode b_By_at 13 = .ok (.getfield 19, 3) := by decide +kernel
theorem d_By_at_16 : decode b_By_at 16 = .ok (.iload_n 1, 1) := by decide +kernel
theorem d_By_at_17 : decode b_By_at 17 = .ok (.baload, 1) := by decide +kernel
theorem d_By_at_18 : decode b_By_at 18 = .ok (.sipush 255, 3) := by decide +kernel
theorem d_By_at_21 : decode b_By_at 21 = .ok (.iand, 1) := by decide +kernel
theorem d_By_at_22 : decode b_By_at 22 = .ok (.goto 4, 3) := by decide +kernel
theorem d_By_at_25 : decode b_By_at 25 = .ok (.iconst (-1), 1) := by decide +kernel
theorem d_By_at_26 : decode b_By_at 26 = .ok (.ireturn, 1) := by decide +kernel
theorem cal_By_at : gx_cal y_By_at b_By_at 2 (some .int) 1 := ⟨wd_754, wd_2, by decide +kernel⟩
def ww_By_at (g : Nat → ClassId) (o : Nat) (o_row : Nat) (x_o_row : Value) (x_o_length : Int32) (x_o_over : Int32) (o_row_n : Nat) (y_o_row : Nat → Int32) : va_W := [(o, .inr (3, [x_o_row, .int x_o_length, .int x_o_over])), (o_row, .inl (g 1, o_row_n, .inl y_o_row))]
def f_By_at_25 (o_row_n : Nat) (o_length : Int32) (o_row_c : Nat → Int32) : Option (Int32) := some (-1 : Int32)
def f_By_at (a1 : Int32) (o_row_n : Nat) (o_length : Int32) (o_row_c : Nat → Int32) : Option (Int32) := if a1 < 0 then (f_By_at_25 o_row_n o_length o_row_c) else (if o_length ≤ a1 then (f_By_at_25 o_row_n o_length o_row_c) else (if gx_ok a1 o_row_n = true then some ((o_row_c a1.toNatClampNeg) &&& (255 : Int32)) else none))
set_option maxHeartbeats 4000000 in
set_option maxRecDepth 100000 in
theorem c_By_at (l : Launch) (z : State) (D : va_G) (g : Nat → ClassId) (o : Nat) (o_row : Nat) (o_length : Int32) (o_over : Int32) (o_row_n : Nat) (o_row_c : Nat → Int32) (a1 : Int32) (r : Int32) (hf : f_By_at a1 o_row_n o_length o_row_c = some r) : gx_Mi l z D g y_By_at b_By_at 2 .int ({ frames := 0, cells := 0, slots := 0, locals := 0 } : Room) [.ref o, .int a1] (ww_By_at g o o_row (.ref o_row) o_length o_over o_row_n o_row_c) (ww_By_at g o o_row (.ref o_row) o_length o_over o_row_n o_row_c) r := by
  refine gx_go (by decide +kernel) rfl ?_
  intro p e s m below meth c ls S hr hlk hnm E hP hD hl
  have hS : va_S (va_A (ww_By_at g o o_row (.ref o_row) o_length o_over o_row_n o_row_c) s.heap.size) s.heap s.heap [] := va_S.rf
  have hl : lv_has ls 2 [(0, .ref o), (1, .int a1)] := hl
  have c_25 : ∀  (ls : Array Slot) (H : Heap) (locs : List Loc), lv_has ls 2 [] → va_S (va_A (ww_By_at g o o_row (.ref o_row) o_length o_over o_row_n o_row_c) s.heap.size) s.heap H locs → va_P D vwC (ww_By_at g o o_row (.ref o_row) o_length o_over o_row_n o_row_c) H → va_D (va_A (ww_By_at g o o_row (.ref o_row) o_length o_over o_row_n o_row_c) s.heap.size) (ww_By_at g o o_row (.ref o_row) o_length o_over o_row_n o_row_c) → (f_By_at_25 o_row_n o_length o_row_c) = some r → W p l e ({ frames := 0, cells := 0, slots := 0, locals := 0 } : Room) s m ([.ref o, .int a1] : List Value).toArray below meth c H locs 0 0 (MQ below (gx_Qi D (ww_By_at g o o_row (.ref o_row) o_length o_over o_row_n o_row_c) (ww_By_at g o o_row (.ref o_row) o_length o_over o_row_n o_row_c) r s.heap.size) ([.ref o, .int a1] : List Value).toArray s 0 0 (va_A (ww_By_at g o o_row (.ref o_row) o_length o_over o_row_n o_row_c) s.heap.size)) (F0 m 25 ls []) := by
    intro  ls H locs hl hS hP hD hf
    have hf : (some (-1 : Int32)) = some r := hf
    refine lv_iconst (v := (-1)) S.1 S.2.1 d_By_at_25 (by decide) ?_
    obtain rfl := Option.some.inj hf
    exact gx_ri S hr hlk hS hP hD d_By_at_26
  have hf : (if a1 < 0 then (f_By_at_25 o_row_n o_length o_row_c) else (if o_length ≤ a1 then (f_By_at_25 o_row_n o_length o_row_c) else (if gx_ok a1 o_row_n = true then some ((o_row_c a1.toNatClampNeg) &&& (255 : Int32)) else none))) = some r := hf
  refine lv_iload_n S.1 S.2.1 d_By_at_0 rfl (lv_at hl 1 rfl) ?_
  refine lv_if_lt (tgt := 25) S.1 S.2.1 d_By_at_1 (by decide) (fun h => ?_) (fun h => ?_)
  ·
    have hf := gx_ifp h hf
    exact c_25  ls _ _ (lv_sub hl [] rfl) hS hP hD hf
  ·
    have hf := gx_ifn h hf
    refine lv_iload_n S.1 S.2.1 d_By_at_4 rfl (lv_at hl 1 rfl) ?_
    refine lv_aload_n S.1 S.2.1 d_By_at_5 rfl (lv_at hl 0 rfl) ?_
    refine gx_gf (v := .int o_length) S E hP 0 rfl rfl i_By 1 rfl wd_48 ⟨rfl, rfl, rfl⟩ rfl d_By_at_6 ?_
    refine lv_icmp_ge (tgt := 25) S.1 S.2.1 d_By_at_9 (by decide) (fun h => ?_) (fun h => ?_)
    ·
      have hf := gx_ifp h hf
      exact c_25  ls _ _ (lv_sub hl [] rfl) hS hP hD hf
    ·
      have hf := gx_ifn h hf
      refine lv_aload_n S.1 S.2.1 d_By_at_12 rfl (lv_at hl 0 rfl) ?_
      refine gx_gf (v := .ref o_row) S E hP 0 rfl rfl i_By 0 rfl wd_47 ⟨rfl, rfl, rfl⟩ rfl d_By_at_13 ?_
      refine lv_iload_n S.1 S.2.1 d_By_at_16 rfl (lv_at hl 1 rfl) ?_
      obtain ⟨hin, hf⟩ := gx_chk hf
      refine va_bald S.1 S.2.1 E.1.1 hP 1 1 rfl rfl (gx_okv hin) d_By_at_17 ?_
      refine lv_sipush (v := 255) S.1 S.2.1 d_By_at_18 (by decide) ?_
      refine lv_iand S.1 S.2.1 d_By_at_21 ?_
      refine lv_goto (tgt := 26) S.1 S.2.1 d_By_at_22 (by decide) ?_
      obtain rfl := Option.some.inj hf
      exact gx_ri S hr hlk hS hP hD d_By_at_26
theorem d_By_add_0 : decode b_By_add 0 = .ok (.aload_n 0, 1) := by decide +kernel
theorem d_By_add_1 : decode b_By_add 1 = .ok (.getfield 9, 3) := by decide +kernel
theorem d_By_add_4 : decode b_By_add 4 = .ok (.aload_n 0, 1) := by decide +kernel
theorem d_By_add_5 : decode b_By_add 5 = .ok (.getfield 19, 3) := by decide +kernel
theorem d_By_add_8 : decode b_By_add 8 = .ok (.arraylength, 1) := by decide +kernel
theorem d_By_add_9 : decode b_By_add 9 = .ok (.if_icmp .ge 27, 3) := by decide +kernel
theorem d_By_add_12 : decode b_By_add 12 = .ok (.aload_n 0, 1) := by decide +kernel
theorem d_By_add_13 : decode b_By_add 13 = .ok (.getfield 19, 3) := by decide +kernel
theorem d_By_add_16 : decode b_By_add 16 = .ok (.aload_n 0, 1) := by decide +kernel
theorem d_By_add_17 : decode b_By_add 17 = .ok (.getfield 9, 3) := by decide +kernel
theorem d_By_add_20 : decode b_By_add 20 = .ok (.iload_n 1, 1) := by decide +kernel
theorem d_By_add_21 : decode b_By_add 21 = .ok (.i2b, 1) := by decide +kernel
theorem d_By_add_22 : decode b_By_add 22 = .ok (.bastore, 1) := by decide +kernel
theorem d_By_add_23 : decode b_By_add 23 = .ok (.aload_n 0, 1) := by decide +kernel
theorem d_By_add_24 : decode b_By_add 24 = .ok (.dup, 1) := by decide +kernel
theorem d_By_add_25 : decode b_By_add 25 = .ok (.getfield 9, 3) := by decide +kernel
theorem d_By_add_28 : decode b_By_add 28 = .ok (.iconst 1, 1) := by decide +kernel
theorem d_By_add_29 : decode b_By_add 29 = .ok (.iadd, 1) := by decide +kernel
theorem d_By_add_30 : decode b_By_add 30 = .ok (.putfield 9, 3) := by decide +kernel
theorem d_By_add_33 : decode b_By_add 33 = .ok (.goto 8, 3) := by decide +kernel
theorem d_By_add_36 : decode b_By_add 36 = .ok (.aload_n 0, 1) := by decide +kernel
theorem d_By_add_37 : decode b_By_add 37 = .ok (.iconst 1, 1) := by decide +kernel
theorem d_By_add_38 : decode b_By_add 38 = .ok (.putfield 15, 3) := by decide +kernel
theorem d_By_add_41 : decode b_By_add 41 = .ok (.return_, 1) := by decide +kernel
theorem cal_By_add : gx_cal y_By_add b_By_add 2 none 1 := ⟨wd_481, wd_2, by decide +kernel⟩
def ww_By_add (g : Nat → ClassId) (o : Nat) (o_row : Nat) (x_o_row : Value) (x_o_length : Int32) (x_o_over : Int32) (o_row_n : Nat) (y_o_row : Nat → Int32) : va_W := [(o, .inr (3, [x_o_row, .int x_o_length, .int x_o_over])), (o_row, .inl (g 1, o_row_n, .inl y_o_row))]
def f_By_add (a1 : Int32) (o_row_n : Nat) (o_length : Int32) (o_over : Int32) (o_row_c : Nat → Int32) : Option (Int32 × Int32 × (Nat → Int32)) := if (Int32.ofNat o_row_n) ≤ o_length then (some (o_length, (1 : Int32), o_row_c)) else (if gx_ok o_length o_row_n = true then some (o_length + (1 : Int32), o_over, upd o_row_c o_length.toNatClampNeg (vp_nar .byte a1.toInt8.toInt32)) else none)
set_option maxHeartbeats 4000000 in
set_option maxRecDepth 100000 in
theorem c_By_add (l : Launch) (z : State) (D : va_G) (g : Nat → ClassId) (o : Nat) (o_row : Nat) (o_length : Int32) (o_over : Int32) (o_row_n : Nat) (o_row_c : Nat → Int32) (a1 : Int32) (r : Int32 × Int32 × (Nat → Int32)) (hf : f_By_add a1 o_row_n o_length o_over o_row_c = some r) : gx_Mv l z D g y_By_add b_By_add 2 ({ frames := 0, cells := 0, slots := 0, locals := 0 } : Room) [.ref o, .int a1] (ww_By_add g o o_row (.ref o_row) o_length o_over o_row_n o_row_c) (ww_By_add g o o_row (.ref o_row) r.1 r.2.1 o_row_n r.2.2) := by
  refine gx_go (by decide +kernel) rfl ?_
  intro p e s m below meth c ls S hr hlk hnm E hP hD hl
  have hS : va_S (va_A (ww_By_add g o o_row (.ref o_row) o_length o_over o_row_n o_row_c) s.heap.size) s.heap s.heap [] := va_S.rf
  have hl : lv_has ls 2 [(0, .ref o), (1, .int a1)] := hl
  have hf : (if (Int32.ofNat o_row_n) ≤ o_length then (some (o_length, (1 : Int32), o_row_c)) else (if gx_ok o_length o_row_n = true then some (o_length + (1 : Int32), o_over, upd o_row_c o_length.toNatClampNeg (vp_nar .byte a1.toInt8.toInt32)) else none)) = some r := hf
  refine lv_aload_n S.1 S.2.1 d_By_add_0 rfl (lv_at hl 0 rfl) ?_
  refine gx_gf (v := .int o_length) S E hP 0 rfl rfl i_By 1 rfl wd_48 ⟨rfl, rfl, rfl⟩ rfl d_By_add_1 ?_
  refine lv_aload_n S.1 S.2.1 d_By_add_4 rfl (lv_at hl 0 rfl) ?_
  refine gx_gf (v := .ref o_row) S E hP 0 rfl rfl i_By 0 rfl wd_47 ⟨rfl, rfl, rfl⟩ rfl d_By_add_5 ?_
  refine va_alen S.1 S.2.1 E.1.1 hP 1 1 rfl rfl rfl d_By_add_8 ?_
  refine lv_icmp_ge (tgt := 36) S.1 S.2.1 d_By_add_9 (by decide) (fun h => ?_) (fun h => ?_)
  ·
    have hf := gx_ifp h hf
    refine lv_aload_n S.1 S.2.1 d_By_add_36 rfl (lv_at hl 0 rfl) ?_
    refine lv_iconst (v := 1) S.1 S.2.1 d_By_add_37 (by decide) ?_
    refine gx_pf (v := .int (1 : Int32)) (ws2 := (ww_By_add g o o_row (.ref o_row) o_length (1 : Int32) o_row_n o_row_c)) S E hS hP hD 0 rfl rfl i_By k_By n_By 2 rfl wd_53 ⟨rfl, rfl, rfl, rfl⟩ (by decide +kernel) (by decide +kernel) rfl d_By_add_38 rfl (fun H locs hS hP hD => ?_)
    obtain rfl := Option.some.inj hf
    exact gx_rv S hr hlk hS hP hD d_By_add_41
  ·
    have hf := gx_ifn h hf
    refine lv_aload_n S.1 S.2.1 d_By_add_12 rfl (lv_at hl 0 rfl) ?_
    refine gx_gf (v := .ref o_row) S E hP 0 rfl rfl i_By 0 rfl wd_47 ⟨rfl, rfl, rfl⟩ rfl d_By_add_13 ?_
    refine lv_aload_n S.1 S.2.1 d_By_add_16 rfl (lv_at hl 0 rfl) ?_
    refine gx_gf (v := .int o_length) S E hP 0 rfl rfl i_By 1 rfl wd_48 ⟨rfl, rfl, rfl⟩ rfl d_By_add_17 ?_
    refine lv_iload_n S.1 S.2.1 d_By_add_20 rfl (lv_at hl 1 rfl) ?_
    refine lv_i2b S.1 S.2.1 d_By_add_21 rfl ?_
    obtain ⟨hin, hf⟩ := gx_chk hf
    refine gx_bast (ws2 := (ww_By_add g o o_row (.ref o_row) o_length o_over o_row_n (upd o_row_c o_length.toNatClampNeg (vp_nar .byte a1.toInt8.toInt32)))) S E hS hP hD 1 1 rfl rfl hin d_By_add_22 rfl (fun H locs hS hP hD => ?_)
    refine lv_aload_n S.1 S.2.1 d_By_add_23 rfl (lv_at hl 0 rfl) ?_
    refine lv_dup S.1 S.2.1 d_By_add_24 rfl ?_
    refine gx_gf (v := .int o_length) S E hP 0 rfl rfl i_By 1 rfl wd_48 ⟨rfl, rfl, rfl⟩ rfl d_By_add_25 ?_
    refine lv_iconst (v := 1) S.1 S.2.1 d_By_add_28 (by decide) ?_
    refine lv_iadd S.1 S.2.1 d_By_add_29 ?_
    refine gx_pf (v := .int (o_length + (1 : Int32))) (ws2 := (ww_By_add g o o_row (.ref o_row) (o_length + (1 : Int32)) o_over o_row_n (upd o_row_c o_length.toNatClampNeg (vp_nar .byte a1.toInt8.toInt32)))) S E hS hP hD 0 rfl rfl i_By k_By n_By 1 rfl wd_48 ⟨rfl, rfl, rfl, rfl⟩ rfl rfl rfl d_By_add_30 rfl (fun H locs hS hP hD => ?_)
    refine lv_goto (tgt := 41) S.1 S.2.1 d_By_add_33 (by decide) ?_
    obtain rfl := Option.some.inj hf
    exact gx_rv S hr hlk hS hP hD d_By_add_41
theorem d_By_addInt_0 : decode b_By_addInt 0 = .ok (.aload_n 0, 1) := by decide +kernel
theorem d_By_addInt_1 : decode b_By_addInt 1 = .ok (.iload_n 1, 1) := by decide +kernel
theorem d_By_addInt_2 : decode b_By_addInt 2 = .ok (.bipush 24, 2) := by decide +kernel
theorem d_By_addInt_4 : decode b_By_addInt 4 = .ok (.iushr, 1) := by decide +kernel
theorem d_By_addInt_5 : decode b_By_addInt 5 = .ok (.invokevirtual 32, 3) := by decide +kernel
theorem d_By_addInt_8 : decode b_By_addInt 8 = .ok (.aload_n 0, 1) := by decide +kernel
theorem d_By_addInt_9 : decode b_By_addInt 9 = .ok (.iload_n 1, 1) := by decide +kernel
theorem d_By_addInt_10 : decode b_By_addInt 10 = .ok (.bipush 16, 2) := by decide +kernel
theorem d_By_addInt_12 : decode b_By_addInt 12 = .ok (.iushr, 1) := by decide +kernel
theorem d_By_addInt_13 : decode b_By_addInt 13 = .ok (.invokevirtual 32, 3) := by decide +kernel
theorem d_By_addInt_16 : decode b_By_addInt 16 = .ok (.aload_n 0, 1) := by decide +kernel
theorem d_By_addInt_17 : decode b_By_addInt 17 = .ok (.iload_n 1, 1) := by decide +kernel
theorem d_By_addInt_18 : decode b_By_addInt 18 = .ok (.bipush 8, 2) := by decide +kernel
theorem d_By_addInt_20 : decode b_By_addInt 20 = .ok (.iushr, 1) := by decide +kernel
theorem d_By_addInt_21 : decode b_By_addInt 21 = .ok (.invokevirtual 32, 3) := by decide +kernel
theorem d_By_addInt_24 : decode b_By_addInt 24 = .ok (.aload_n 0, 1) := by decide +kernel
theorem d_By_addInt_25 : decode b_By_addInt 25 = .ok (.iload_n 1, 1) := by decide +kernel
theorem d_By_addInt_26 : decode b_By_addInt 26 = .ok (.invokevirtual 32, 3) := by decide +kernel
theorem d_By_addInt_29 : decode b_By_addInt 29 = .ok (.return_, 1) := by decide +kernel
theorem cal_By_addInt : gx_cal y_By_addInt b_By_addInt 2 none 1 := ⟨wd_710, wd_2, by decide +kernel⟩
def ww_By_addInt (g : Nat → ClassId) (o : Nat) (o_row : Nat) (x_o_row : Value) (x_o_length : Int32) (x_o_over : Int32) (o_row_n : Nat) (y_o_row : Nat → Int32) : va_W := [(o, .inr (3, [x_o_row, .int x_o_length, .int x_o_over])), (o_row, .inl (g 1, o_row_n, .inl y_o_row))]
def f_By_addInt (a1 : Int32) (o_row_n : Nat) (o_length : Int32) (o_over : Int32) (o_row_c : Nat → Int32) : Option (Int32 × Int32 × (Nat → Int32)) := (f_By_add ((a1.toUInt32 >>> ((24 : Int32).toUInt32 &&& Int32.toUInt32 31)).toInt32) o_row_n o_length o_over o_row_c).bind fun u5 => (f_By_add ((a1.toUInt32 >>> ((16 : Int32).toUInt32 &&& Int32.toUInt32 31)).toInt32) o_row_n u5.1 u5.2.1 u5.2.2).bind fun u13 => (f_By_add ((a1.toUInt32 >>> ((8 : Int32).toUInt32 &&& Int32.toUInt32 31)).toInt32) o_row_n u13.1 u13.2.1 u13.2.2).bind fun u21 => (f_By_add a1 o_row_n u21.1 u21.2.1 u21.2.2).bind fun u26 => some (u26.1, u26.2.1, u26.2.2)
set_option maxHeartbeats 4000000 in
set_option maxRecDepth 100000 in
theorem c_By_addInt (l : Launch) (z : State) (D : va_G) (g : Nat → ClassId) (o : Nat) (o_row : Nat) (o_length : Int32) (o_over : Int32) (o_row_n : Nat) (o_row_c : Nat → Int32) (a1 : Int32) (r : Int32 × Int32 × (Nat → Int32)) (hf : f_By_addInt a1 o_row_n o_length o_over o_row_c = some r) : gx_Mv l z D g y_By_addInt b_By_addInt 2 ({ frames := 1, cells := 0, slots := 0, locals := 21 } : Room) [.ref o, .int a1] (ww_By_addInt g o o_row (.ref o_row) o_length o_over o_row_n o_row_c) (ww_By_addInt g o o_row (.ref o_row) r.1 r.2.1 o_row_n r.2.2) := by
  refine gx_go (by decide +kernel) rfl ?_
  intro p e s m below meth c ls S hr hlk hnm E hP hD hl
  have hS : va_S (va_A (ww_By_addInt g o o_row (.ref o_row) o_length o_over o_row_n o_row_c) s.heap.size) s.heap s.heap [] := va_S.rf
  have hl : lv_has ls 2 [(0, .ref o), (1, .int a1)] := hl
  have hf : ((f_By_add ((a1.toUInt32 >>> ((24 : Int32).toUInt32 &&& Int32.toUInt32 31)).toInt32) o_row_n o_length o_over o_row_c).bind fun u5 => (f_By_add ((a1.toUInt32 >>> ((16 : Int32).toUInt32 &&& Int32.toUInt32 31)).toInt32) o_row_n u5.1 u5.2.1 u5.2.2).bind fun u13 => (f_By_add ((a1.toUInt32 >>> ((8 : Int32).toUInt32 &&& Int32.toUInt32 31)).toInt32) o_row_n u13.1 u13.2.1 u13.2.2).bind fun u21 => (f_By_add a1 o_row_n u21.1 u21.2.1 u21.2.2).bind fun u26 => some (u26.1, u26.2.1, u26.2.2)) = some r := hf
  refine lv_aload_n S.1 S.2.1 d_By_addInt_0 rfl (lv_at hl 0 rfl) ?_
  refine lv_iload_n S.1 S.2.1 d_By_addInt_1 rfl (lv_at hl 1 rfl) ?_
  refine lv_bipush (v := 24) S.1 S.2.1 d_By_addInt_2 (by decide) ?_
  refine lv_iushr S.1 S.2.1 d_By_addInt_4 rfl ?_
  obtain ⟨u5, hc5, hf⟩ := gx_bnd hf
  refine gx_Vv (ws2 := (ww_By_addInt g o o_row (.ref o_row) u5.1 u5.2.1 o_row_n u5.2.2)) S E hS hP hD (c_By_add l z D g o o_row o_length o_over o_row_n o_row_c ((a1.toUInt32 >>> ((24 : Int32).toUInt32 &&& Int32.toUInt32 31)).toInt32) u5 hc5) cal_By_add wd_479 wd_480 wd_478 rfl [0, 1] rfl rfl rfl (gx_rc E hP 0 rfl rfl) rfl hl.1 rfl d_By_addInt_5 ⟨Nat.zero_le _, Nat.zero_le _⟩ rfl (fun H locs hS hP hD => ?_)
  refine lv_aload_n S.1 S.2.1 d_By_addInt_8 rfl (lv_at hl 0 rfl) ?_
  refine lv_iload_n S.1 S.2.1 d_By_addInt_9 rfl (lv_at hl 1 rfl) ?_
  refine lv_bipush (v := 16) S.1 S.2.1 d_By_addInt_10 (by decide) ?_
  refine lv_iushr S.1 S.2.1 d_By_addInt_12 rfl ?_
  obtain ⟨u13, hc13, hf⟩ := gx_bnd hf
  refine gx_Vv (ws2 := (ww_By_addInt g o o_row (.ref o_row) u13.1 u13.2.1 o_row_n u13.2.2)) S E hS hP hD (c_By_add l z D g o o_row u5.1 u5.2.1 o_row_n u5.2.2 ((a1.toUInt32 >>> ((16 : Int32).toUInt32 &&& Int32.toUInt32 31)).toInt32) u13 hc13) cal_By_add wd_479 wd_480 wd_478 rfl [0, 1] rfl rfl rfl (gx_rc E hP 0 rfl rfl) rfl hl.1 rfl d_By_addInt_13 ⟨Nat.zero_le _, Nat.zero_le _⟩ rfl (fun H locs hS hP hD => ?_)
  refine lv_aload_n S.1 S.2.1 d_By_addInt_16 rfl (lv_at hl 0 rfl) ?_
  refine lv_iload_n S.1 S.2.1 d_By_addInt_17 rfl (lv_at hl 1 rfl) ?_
  refine lv_bipush (v := 8) S.1 S.2.1 d_By_addInt_18 (by decide) ?_
  refine lv_iushr S.1 S.2.1 d_By_addInt_20 rfl ?_
  obtain ⟨u21, hc21, hf⟩ := gx_bnd hf
  refine gx_Vv (ws2 := (ww_By_addInt g o o_row (.ref o_row) u21.1 u21.2.1 o_row_n u21.2.2)) S E hS hP hD (c_By_add l z D g o o_row u13.1 u13.2.1 o_row_n u13.2.2 ((a1.toUInt32 >>> ((8 : Int32).toUInt32 &&& Int32.toUInt32 31)).toInt32) u21 hc21) cal_By_add wd_479 wd_480 wd_478 rfl [0, 1] rfl rfl rfl (gx_rc E hP 0 rfl rfl) rfl hl.1 rfl d_By_addInt_21 ⟨Nat.zero_le _, Nat.zero_le _⟩ rfl (fun H locs hS hP hD => ?_)
  refine lv_aload_n S.1 S.2.1 d_By_addInt_24 rfl (lv_at hl 0 rfl) ?_
  refine lv_iload_n S.1 S.2.1 d_By_addInt_25 rfl (lv_at hl 1 rfl) ?_
  obtain ⟨u26, hc26, hf⟩ := gx_bnd hf
  refine gx_Vv (ws2 := (ww_By_addInt g o o_row (.ref o_row) u26.1 u26.2.1 o_row_n u26.2.2)) S E hS hP hD (c_By_add l z D g o o_row u21.1 u21.2.1 o_row_n u21.2.2 a1 u26 hc26) cal_By_add wd_479 wd_480 wd_478 rfl [0, 1] rfl rfl rfl (gx_rc E hP 0 rfl rfl) rfl hl.1 rfl d_By_addInt_26 ⟨Nat.zero_le _, Nat.zero_le _⟩ rfl (fun H locs hS hP hD => ?_)
  obtain rfl := Option.some.inj hf
  exact gx_rv S hr hlk hS hP hD d_By_addInt_29
theorem d_By_addTimes_0 : decode b_By_addTimes 0 = .ok (.iload_n 2, 1) := by decide +kernel
theorem d_By_addTimes_1 : decode b_By_addTimes 1 = .ok (.iconst 0, 1) := by decide +kernel
theorem d_By_addTimes_2 : decode b_By_addTimes 2 = .ok (.invokestatic 23, 3) := by decide +kernel
theorem d_By_addTimes_5 : decode b_By_addTimes 5 = .ok (.aload_n 0, 1) := by decide +kernel
theorem d_By_addTimes_6 : decode b_By_addTimes 6 = .ok (.getfield 19, 3) := by decide +kernel
theorem d_By_addTimes_9 : decode b_By_addTimes 9 = .ok (.arraylength, 1) := by decide +kernel
theorem d_By_addTimes_10 : decode b_By_addTimes 10 = .ok (.aload_n 0, 1) := by decide +kernel
theorem d_By_addTimes_11 : decode b_By_addTimes 11 = .ok (.getfield 9, 3) := by decide +kernel
theorem d_By_addTimes_14 : decode b_By_addTimes 14 = .ok (.isub, 1) := by decide +kernel
theorem d_By_addTimes_15 : decode b_By_addTimes 15 = .ok (.invokestatic 29, 3) := by decide +kernel
theorem d_By_addTimes_18 : decode b_By_addTimes 18 = .ok (.istore_n 3, 1) := by decide +kernel
theorem d_By_addTimes_19 : decode b_By_addTimes 19 = .ok (.iconst 0, 1) := by decide +kernel
theorem d_By_addTimes_20 : decode b_By_addTimes 20 = .ok (.istore 4, 2) := by decide +kernel
theorem d_By_addTimes_22 : decode b_By_addTimes 22 = .ok (.iload 4, 2) := by decide +kernel
theorem d_By_addTimes_24 : decode b_By_addTimes 24 = .ok (.iload_n 3, 1) := by decide +kernel
theorem d_By_addTimes_25 : decode b_By_addTimes 25 = .ok (.if_icmp .ge 23, 3) := by decide +kernel
theorem d_By_addTimes_28 : decode b_By_addTimes 28 = .ok (.aload_n 0, 1) := by decide +kernel
theorem d_By_addTimes_29 : decode b_By_addTimes 29 = .ok (.getfield 19, 3) := by decide +kernel
theorem d_By_addTimes_32 : decode b_By_addTimes 32 = .ok (.aload_n 0, 1) := by decide +kernel
theorem d_By_addTimes_33 : decode b_By_addTimes 33 = .ok (.getfield 9, 3) := by decide +kernel
theorem d_By_addTimes_36 : decode b_By_addTimes 36 = .ok (.iload 4, 2) := by decide +kernel
theorem d_By_addTimes_38 : decode b_By_addTimes 38 = .ok (.iadd, 1) := by decide +kernel
theorem d_By_addTimes_39 : decode b_By_addTimes 39 = .ok (.iload_n 1, 1) := by decide +kernel
theorem d_By_addTimes_40 : decode b_By_addTimes 40 = .ok (.i2b, 1) := by decide +kernel
theorem d_By_addTimes_41 : decode b_By_addTimes 41 = .ok (.bastore, 1) := by decide +kernel
theorem d_By_addTimes_42 : decode b_By_addTimes 42 = .ok (.iinc 4 1, 3) := by decide +kernel
theorem d_By_addTimes_45 : decode b_By_addTimes 45 = .ok (.goto (-23), 3) := by decide +kernel
theorem d_By_addTimes_48 : decode b_By_addTimes 48 = .ok (.aload_n 0, 1) := by decide +kernel
theorem d_By_addTimes_49 : decode b_By_addTimes 49 = .ok (.dup, 1) := by decide +kernel
theorem d_By_addTimes_50 : decode b_By_addTimes 50 = .ok (.getfield 9, 3) := by decide +kernel
theorem d_By_addTimes_53 : decode b_By_addTimes 53 = .ok (.iload_n 3, 1) := by decide +kernel
theorem d_By_addTimes_54 : decode b_By_addTimes 54 = .ok (.iadd, 1) := by decide +kernel
theorem d_By_addTimes_55 : decode b_By_addTimes 55 = .ok (.putfield 9, 3) := by decide +kernel
theorem d_By_addTimes_58 : decode b_By_addTimes 58 = .ok (.aload_n 0, 1) := by decide +kernel
theorem d_By_addTimes_59 : decode b_By_addTimes 59 = .ok (.aload_n 0, 1) := by decide +kernel
theorem d_By_addTimes_60 : decode b_By_addTimes 60 = .ok (.getfield 15, 3) := by decide +kernel
theorem d_By_addTimes_63 : decode b_By_addTimes 63 = .ok (.ifCond .ne 8, 3) := by decide +kernel
theorem d_By_addTimes_66 : decode b_By_addTimes 66 = .ok (.iload_n 3, 1) := by decide +kernel
theorem d_By_addTimes_67 : decode b_By_addTimes 67 = .ok (.iload_n 2, 1) := by decide +kernel
theorem d_By_addTimes_68 : decode b_By_addTimes 68 = .ok (.if_icmp .ge 7, 3) := by decide +kernel
theorem d_By_addTimes_71 : decode b_By_addTimes 71 = .ok (.iconst 1, 1) := by decide +kernel
theorem d_By_addTimes_72 : decode b_By_addTimes 72 = .ok (.goto 4, 3) := by decide +kernel
theorem d_By_addTimes_75 : decode b_By_addTimes 75 = .ok (.iconst 0, 1) := by decide +kernel
theorem d_By_addTimes_76 : decode b_By_addTimes 76 = .ok (.putfield 15, 3) := by decide +kernel
theorem d_By_addTimes_79 : decode b_By_addTimes 79 = .ok (.return_, 1) := by decide +kernel
theorem cal_By_addTimes : gx_cal y_By_addTimes b_By_addTimes 5 none 2 := ⟨wd_609, wd_2, by decide +kernel⟩
def ww_By_addTimes (g : Nat → ClassId) (o : Nat) (o_row : Nat) (x_o_row : Value) (x_o_length : Int32) (x_o_over : Int32) (o_row_n : Nat) (y_o_row : Nat → Int32) : va_W := [(o, .inr (3, [x_o_row, .int x_o_length, .int x_o_over])), (o_row, .inl (g 1, o_row_n, .inl y_o_row))]
def f_By_addTimes_71 (o_row_n : Nat) (o_lengthq : Int32) (o_overq : Int32) (o_row_cq : Nat → Int32) : Option (Int32 × Int32 × (Nat → Int32)) := some (o_lengthq, (1 : Int32), o_row_cq)
def f_By_addTimes_22 : Nat → Int32 → Int32 → Int32 → Int32 → Nat → Int32 → Int32 → (Nat → Int32) → Option (Int32 × Int32 × (Nat → Int32))
  | 0, _, _, _, _, _, _, _, _ => none
  | n + 1, v1, v2, v3, v4, o_row_n, o_lengthq, o_overq, o_row_cq => if v3 ≤ v4 then (if o_overq = 0 then (if v2 ≤ v3 then (some (o_lengthq + v3, (0 : Int32), o_row_cq)) else (f_By_addTimes_71 o_row_n (o_lengthq + v3) o_overq o_row_cq)) else (f_By_addTimes_71 o_row_n (o_lengthq + v3) o_overq o_row_cq)) else (if gx_ok (o_lengthq + v4) o_row_n = true then f_By_addTimes_22 n v1 v2 v3 (v4 + 1) o_row_n o_lengthq o_overq (upd o_row_cq (o_lengthq + v4).toNatClampNeg (vp_nar .byte v1.toInt8.toInt32)) else none)
def f_By_addTimes (a1 : Int32) (a2 : Int32) (o_row_n : Nat) (o_length : Int32) (o_over : Int32) (o_row_c : Nat → Int32) : Option (Int32 × Int32 × (Nat → Int32)) := (f_JMath_max a2 (0 : Int32)).bind fun u2 => (f_JMath_min u2 ((Int32.ofNat o_row_n) - o_length)).bind fun u15 => f_By_addTimes_22 gx_fu a1 a2 u15 (0 : Int32) o_row_n o_length o_over o_row_c
set_option maxHeartbeats 4000000 in
set_option maxRecDepth 100000 in
theorem c_By_addTimes (l : Launch) (z : State) (D : va_G) (g : Nat → ClassId) (o : Nat) (o_row : Nat) (o_length : Int32) (o_over : Int32) (o_row_n : Nat) (o_row_c : Nat → Int32) (a1 : Int32) (a2 : Int32) (r : Int32 × Int32 × (Nat → Int32)) (hf : f_By_addTimes a1 a2 o_row_n o_length o_over o_row_c = some r) : gx_Mv l z D g y_By_addTimes b_By_addTimes 5 ({ frames := 1, cells := 0, slots := 0, locals := 21 } : Room) [.ref o, .int a1, .int a2] (ww_By_addTimes g o o_row (.ref o_row) o_length o_over o_row_n o_row_c) (ww_By_addTimes g o o_row (.ref o_row) r.1 r.2.1 o_row_n r.2.2) := by
  refine gx_go (by decide +kernel) rfl ?_
  intro p e s m below meth c ls S hr hlk hnm E hP hD hl
  have hS : va_S (va_A (ww_By_addTimes g o o_row (.ref o_row) o_length o_over o_row_n o_row_c) s.heap.size) s.heap s.heap [] := va_S.rf
  have hl : lv_has ls 5 [(0, .ref o), (1, .int a1), (2, .int a2)] := hl
  have c_71 : ∀ (o_lengthq : Int32) (o_overq : Int32) (o_row_cq : Nat → Int32) (ls : Array Slot) (H : Heap) (locs : List Loc), lv_has ls 5 [] → va_S (va_A (ww_By_addTimes g o o_row (.ref o_row) o_length o_over o_row_n o_row_c) s.heap.size) s.heap H locs → va_P D vwC (ww_By_addTimes g o o_row (.ref o_row) o_lengthq o_overq o_row_n o_row_cq) H → va_D (va_A (ww_By_addTimes g o o_row (.ref o_row) o_length o_over o_row_n o_row_c) s.heap.size) (ww_By_addTimes g o o_row (.ref o_row) o_lengthq o_overq o_row_n o_row_cq) → (f_By_addTimes_71 o_row_n o_lengthq o_overq o_row_cq) = some r → W p l e ({ frames := 1, cells := 0, slots := 0, locals := 21 } : Room) s m ([.ref o, .int a1, .int a2] : List Value).toArray below meth c H locs 0 0 (MQ below (gx_Qv D (ww_By_addTimes g o o_row (.ref o_row) o_length o_over o_row_n o_row_c) (ww_By_addTimes g o o_row (.ref o_row) r.1 r.2.1 o_row_n r.2.2) s.heap.size) ([.ref o, .int a1, .int a2] : List Value).toArray s 0 0 (va_A (ww_By_addTimes g o o_row (.ref o_row) o_length o_over o_row_n o_row_c) s.heap.size)) (F0 m 71 ls [.ref o]) := by
    intro o_lengthq o_overq o_row_cq ls H locs hl hS hP hD hf
    have hf : (some (o_lengthq, (1 : Int32), o_row_cq)) = some r := hf
    refine lv_iconst (v := 1) S.1 S.2.1 d_By_addTimes_71 (by decide) ?_
    refine lv_goto (tgt := 76) S.1 S.2.1 d_By_addTimes_72 (by decide) ?_
    refine gx_pf (v := .int (1 : Int32)) (ws2 := (ww_By_addTimes g o o_row (.ref o_row) o_lengthq (1 : Int32) o_row_n o_row_cq)) S E hS hP hD 0 rfl rfl i_By k_By n_By 2 rfl wd_53 ⟨rfl, rfl, rfl, rfl⟩ (by decide +kernel) (by decide +kernel) rfl d_By_addTimes_76 rfl (fun H locs hS hP hD => ?_)
    obtain rfl := Option.some.inj hf
    exact gx_rv S hr hlk hS hP hD d_By_addTimes_79
  have c_22 : ∀ n : Nat, ∀ (v1 : Int32) (v2 : Int32) (v3 : Int32) (v4 : Int32) (o_lengthq : Int32) (o_overq : Int32) (o_row_cq : Nat → Int32) (ls : Array Slot) (H : Heap) (locs : List Loc), lv_has ls 5 [(0, .ref o), (1, .int v1), (2, .int v2), (3, .int v3), (4, .int v4)] → va_S (va_A (ww_By_addTimes g o o_row (.ref o_row) o_length o_over o_row_n o_row_c) s.heap.size) s.heap H locs → va_P D vwC (ww_By_addTimes g o o_row (.ref o_row) o_lengthq o_overq o_row_n o_row_cq) H → va_D (va_A (ww_By_addTimes g o o_row (.ref o_row) o_length o_over o_row_n o_row_c) s.heap.size) (ww_By_addTimes g o o_row (.ref o_row) o_lengthq o_overq o_row_n o_row_cq) → (f_By_addTimes_22 n v1 v2 v3 v4 o_row_n o_lengthq o_overq o_row_cq) = some r → W p l e ({ frames := 1, cells := 0, slots := 0, locals := 21 } : Room) s m ([.ref o, .int a1, .int a2] : List Value).toArray below meth c H locs 0 0 (MQ below (gx_Qv D (ww_By_addTimes g o o_row (.ref o_row) o_length o_over o_row_n o_row_c) (ww_By_addTimes g o o_row (.ref o_row) r.1 r.2.1 o_row_n r.2.2) s.heap.size) ([.ref o, .int a1, .int a2] : List Value).toArray s 0 0 (va_A (ww_By_addTimes g o o_row (.ref o_row) o_length o_over o_row_n o_row_c) s.heap.size)) (F0 m 22 ls []) := by
    intro n
    induction n with
    | zero => intro v1 v2 v3 v4 o_lengthq o_overq o_row_cq ls H locs hl hS hP hD hf; cases hf
    | succ n ih =>
      intro v1 v2 v3 v4 o_lengthq o_overq o_row_cq ls H locs hl hS hP hD hf
      have hf : (if v3 ≤ v4 then (if o_overq = 0 then (if v2 ≤ v3 then (some (o_lengthq + v3, (0 : Int32), o_row_cq)) else (f_By_addTimes_71 o_row_n (o_lengthq + v3) o_overq o_row_cq)) else (f_By_addTimes_71 o_row_n (o_lengthq + v3) o_overq o_row_cq)) else (if gx_ok (o_lengthq + v4) o_row_n = true then f_By_addTimes_22 n v1 v2 v3 (v4 + 1) o_row_n o_lengthq o_overq (upd o_row_cq (o_lengthq + v4).toNatClampNeg (vp_nar .byte v1.toInt8.toInt32)) else none)) = some r := hf
      refine lv_iload S.1 S.2.1 d_By_addTimes_22 (lv_at hl 4 rfl) ?_
      refine lv_iload_n S.1 S.2.1 d_By_addTimes_24 rfl (lv_at hl 3 rfl) ?_
      refine lv_icmp_ge (tgt := 48) S.1 S.2.1 d_By_addTimes_25 (by decide) (fun h => ?_) (fun h => ?_)
      ·
        have hf := gx_ifp h hf
        refine lv_aload_n S.1 S.2.1 d_By_addTimes_48 rfl (lv_at hl 0 rfl) ?_
        refine lv_dup S.1 S.2.1 d_By_addTimes_49 rfl ?_
        refine gx_gf (v := .int o_lengthq) S E hP 0 rfl rfl i_By 1 rfl wd_48 ⟨rfl, rfl, rfl⟩ rfl d_By_addTimes_50 ?_
        refine lv_iload_n S.1 S.2.1 d_By_addTimes_53 rfl (lv_at hl 3 rfl) ?_
        refine lv_iadd S.1 S.2.1 d_By_addTimes_54 ?_
        refine gx_pf (v := .int (o_lengthq + v3)) (ws2 := (ww_By_addTimes g o o_row (.ref o_row) (o_lengthq + v3) o_overq o_row_n o_row_cq)) S E hS hP hD 0 rfl rfl i_By k_By n_By 1 rfl wd_48 ⟨rfl, rfl, rfl, rfl⟩ rfl rfl rfl d_By_addTimes_55 rfl (fun H locs hS hP hD => ?_)
        refine lv_aload_n S.1 S.2.1 d_By_addTimes_58 rfl (lv_at hl 0 rfl) ?_
        refine lv_aload_n S.1 S.2.1 d_By_addTimes_59 rfl (lv_at hl 0 rfl) ?_
        refine gx_gf (v := .int o_overq) S E hP 0 rfl rfl i_By 2 rfl wd_53 ⟨rfl, rfl, rfl⟩ rfl d_By_addTimes_60 ?_
        refine lv_if_ne (tgt := 71) S.1 S.2.1 d_By_addTimes_63 (by decide) (fun h => ?_) (fun h => ?_)
        ·
          have hf := gx_ifn h hf
          exact c_71 (o_lengthq + v3) o_overq o_row_cq ls _ _ (lv_sub hl [] rfl) hS hP hD hf
        ·
          have hf := gx_ifp h hf
          refine lv_iload_n S.1 S.2.1 d_By_addTimes_66 rfl (lv_at hl 3 rfl) ?_
          refine lv_iload_n S.1 S.2.1 d_By_addTimes_67 rfl (lv_at hl 2 rfl) ?_
          refine lv_icmp_ge (tgt := 75) S.1 S.2.1 d_By_addTimes_68 (by decide) (fun h => ?_) (fun h => ?_)
          ·
            have hf := gx_ifp h hf
            refine lv_iconst (v := 0) S.1 S.2.1 d_By_addTimes_75 (by decide) ?_
            refine gx_pf (v := .int (0 : Int32)) (ws2 := (ww_By_addTimes g o o_row (.ref o_row) (o_lengthq + v3) (0 : Int32) o_row_n o_row_cq)) S E hS hP hD 0 rfl rfl i_By k_By n_By 2 rfl wd_53 ⟨rfl, rfl, rfl, rfl⟩ (by decide +kernel) (by decide +kernel) rfl d_By_addTimes_76 rfl (fun H locs hS hP hD => ?_)
            obtain rfl := Option.some.inj hf
            exact gx_rv S hr hlk hS hP hD d_By_addTimes_79
          ·
            have hf := gx_ifn h hf
            exact c_71 (o_lengthq + v3) o_overq o_row_cq ls _ _ (lv_sub hl [] rfl) hS hP hD hf
      ·
        have hf := gx_ifn h hf
        refine lv_aload_n S.1 S.2.1 d_By_addTimes_28 rfl (lv_at hl 0 rfl) ?_
        refine gx_gf (v := .ref o_row) S E hP 0 rfl rfl i_By 0 rfl wd_47 ⟨rfl, rfl, rfl⟩ rfl d_By_addTimes_29 ?_
        refine lv_aload_n S.1 S.2.1 d_By_addTimes_32 rfl (lv_at hl 0 rfl) ?_
        refine gx_gf (v := .int o_lengthq) S E hP 0 rfl rfl i_By 1 rfl wd_48 ⟨rfl, rfl, rfl⟩ rfl d_By_addTimes_33 ?_
        refine lv_iload S.1 S.2.1 d_By_addTimes_36 (lv_at hl 4 rfl) ?_
        refine lv_iadd S.1 S.2.1 d_By_addTimes_38 ?_
        refine lv_iload_n S.1 S.2.1 d_By_addTimes_39 rfl (lv_at hl 1 rfl) ?_
        refine lv_i2b S.1 S.2.1 d_By_addTimes_40 rfl ?_
        obtain ⟨hin, hf⟩ := gx_chk hf
        refine gx_bast (ws2 := (ww_By_addTimes g o o_row (.ref o_row) o_lengthq o_overq o_row_n (upd o_row_cq (o_lengthq + v4).toNatClampNeg (vp_nar .byte v1.toInt8.toInt32)))) S E hS hP hD 1 1 rfl rfl hin d_By_addTimes_41 rfl (fun H locs hS hP hD => ?_)
        refine lv_iinc (v := v4 + 1) (lv' := [(4, .int (v4 + 1)), (0, .ref o), (1, .int v1), (2, .int v2), (3, .int v3)]) S.1 S.2.1 d_By_addTimes_42 hl (k := 4) rfl rfl (by decide) rfl (fun ls hl => ?_)
        refine lv_goto (tgt := 22) S.1 S.2.1 d_By_addTimes_45 (by decide) ?_
        exact ih v1 v2 v3 (v4 + 1) o_lengthq o_overq (upd o_row_cq (o_lengthq + v4).toNatClampNeg (vp_nar .byte v1.toInt8.toInt32)) ls _ _ (lv_sub hl [1, 2, 3, 4, 0] rfl) hS hP hD hf
  have hf : ((f_JMath_max a2 (0 : Int32)).bind fun u2 => (f_JMath_min u2 ((Int32.ofNat o_row_n) - o_length)).bind fun u15 => f_By_addTimes_22 gx_fu a1 a2 u15 (0 : Int32) o_row_n o_length o_over o_row_c) = some r := hf
  refine lv_iload_n S.1 S.2.1 d_By_addTimes_0 rfl (lv_at hl 2 rfl) ?_
  refine lv_iconst (v := 0) S.1 S.2.1 d_By_addTimes_1 (by decide) ?_
  obtain ⟨u2, hc2, hf⟩ := gx_bnd hf
  refine gx_Si (ws2 := (ww_By_addTimes g o o_row (.ref o_row) o_length o_over o_row_n o_row_c)) S E hS hP hD (c_JMath_max l z D g a2 (0 : Int32) u2 hc2) cal_JMath_max wd_411 wd_417 rfl [] rfl rfl rfl rfl hl.1 rfl d_By_addTimes_2 ⟨Nat.zero_le _, Nat.zero_le _⟩ rfl (fun H locs hS hP hD => ?_)
  refine lv_aload_n S.1 S.2.1 d_By_addTimes_5 rfl (lv_at hl 0 rfl) ?_
  refine gx_gf (v := .ref o_row) S E hP 0 rfl rfl i_By 0 rfl wd_47 ⟨rfl, rfl, rfl⟩ rfl d_By_addTimes_6 ?_
  refine va_alen S.1 S.2.1 E.1.1 hP 1 1 rfl rfl rfl d_By_addTimes_9 ?_
  refine lv_aload_n S.1 S.2.1 d_By_addTimes_10 rfl (lv_at hl 0 rfl) ?_
  refine gx_gf (v := .int o_length) S E hP 0 rfl rfl i_By 1 rfl wd_48 ⟨rfl, rfl, rfl⟩ rfl d_By_addTimes_11 ?_
  refine lv_isub S.1 S.2.1 d_By_addTimes_14 ?_
  obtain ⟨u15, hc15, hf⟩ := gx_bnd hf
  refine gx_Si (ws2 := (ww_By_addTimes g o o_row (.ref o_row) o_length o_over o_row_n o_row_c)) S E hS hP hD (c_JMath_min l z D g u2 ((Int32.ofNat o_row_n) - o_length) u15 hc15) cal_JMath_min wd_419 wd_418 rfl [] rfl rfl rfl rfl hl.1 rfl d_By_addTimes_15 ⟨Nat.zero_le _, Nat.zero_le _⟩ rfl (fun H locs hS hP hD => ?_)
  refine lv_istore_n (lv' := [(3, .int u15), (0, .ref o), (1, .int a1), (2, .int a2)]) S.1 S.2.1 d_By_addTimes_18 rfl hl (by decide) rfl (fun ls hl => ?_)
  refine lv_iconst (v := 0) S.1 S.2.1 d_By_addTimes_19 (by decide) ?_
  refine lv_istore (lv' := [(4, .int (0 : Int32)), (3, .int u15), (0, .ref o), (1, .int a1), (2, .int a2)]) S.1 S.2.1 d_By_addTimes_20 hl (by decide) rfl (fun ls hl => ?_)
  exact c_22 gx_fu a1 a2 u15 (0 : Int32) o_length o_over o_row_c ls _ _ (lv_sub hl [2, 3, 4, 1, 0] rfl) hS hP hD hf
theorem d_By_addString_0 : decode b_By_addString 0 = .ok (.iconst 0, 1) := by decide +kernel
theorem d_By_addString_1 : decode b_By_addString 1 = .ok (.istore_n 2, 1) := by decide +kernel
theorem d_By_addString_2 : decode b_By_addString 2 = .ok (.iload_n 2, 1) := by decide +kernel
theorem d_By_addString_3 : decode b_By_addString 3 = .ok (.aload_n 1, 1) := by decide +kernel
theorem d_By_addString_4 : decode b_By_addString 4 = .ok (.invokevirtual 36, 3) := by decide +kernel
theorem d_By_addString_7 : decode b_By_addString 7 = .ok (.if_icmp .ge 18, 3) := by decide +kernel
theorem d_By_addString_10 : decode b_By_addString 10 = .ok (.aload_n 0, 1) := by decide +kernel
theorem d_By_addString_11 : decode b_By_addString 11 = .ok (.aload_n 1, 1) := by decide +kernel
theorem d_By_addString_12 : decode b_By_addString 12 = .ok (.iload_n 2, 1) := by decide +kernel
theorem d_By_addString_13 : decode b_By_addString 13 = .ok (.invokevirtual 41, 3) := by decide +kernel
theorem d_By_addString_16 : decode b_By_addString 16 = .ok (.invokevirtual 32, 3) := by decide +kernel
theorem d_By_addString_19 : decode b_By_addString 19 = .ok (.iinc 2 1, 3) := by decide +kernel
theorem d_By_addString_22 : decode b_By_addString 22 = .ok (.goto (-20), 3) := by decide +kernel
theorem d_By_addString_25 : decode b_By_addString 25 = .ok (.return_, 1) := by decide +kernel
theorem cal_By_addString : gx_cal y_By_addString b_By_addString 3 none 1 := ⟨wd_429, wd_2, by decide +kernel⟩
def ww_By_addString (g : Nat → ClassId) (o : Nat) (o_row : Nat) (x_o_row : Value) (x_o_length : Int32) (x_o_over : Int32) (o_row_n : Nat) (y_o_row : Nat → Int32) : va_W := [(o, .inr (3, [x_o_row, .int x_o_length, .int x_o_over])), (o_row, .inl (g 1, o_row_n, .inl y_o_row))]
def f_By_addString_2 : Nat → Nat → Int32 → Nat → Int32 → Int32 → (Nat → Int32) → Option (Int32 × Int32 × (Nat → Int32))
  | 0, _, _, _, _, _, _ => none
  | n + 1, v1, v2, o_row_n, o_lengthq, o_overq, o_row_cq => if v1 < 74 then (f_JStr_length v1).bind fun u4 => if u4 ≤ v2 then (some (o_lengthq, o_overq, o_row_cq)) else (if v1 < 74 then (f_JStr_charAt v1 v2).bind fun u13 => (f_By_add u13 o_row_n o_lengthq o_overq o_row_cq).bind fun u16 => f_By_addString_2 n v1 (v2 + 1) o_row_n u16.1 u16.2.1 u16.2.2 else none) else none
def f_By_addString (a1 : Nat) (o_row_n : Nat) (o_length : Int32) (o_over : Int32) (o_row_c : Nat → Int32) : Option (Int32 × Int32 × (Nat → Int32)) := f_By_addString_2 gx_fu a1 (0 : Int32) o_row_n o_length o_over o_row_c
set_option maxHeartbeats 4000000 in
set_option maxRecDepth 100000 in
theorem c_By_addString (l : Launch) (z : State) (D : va_G) (g : Nat → ClassId) (o : Nat) (o_row : Nat) (o_length : Int32) (o_over : Int32) (o_row_n : Nat) (o_row_c : Nat → Int32) (a1 : Nat) (r : Int32 × Int32 × (Nat → Int32)) (hf : f_By_addString a1 o_row_n o_length o_over o_row_c = some r) : gx_Mv l z D g y_By_addString b_By_addString 3 ({ frames := 4, cells := 0, slots := 0, locals := 85 } : Room) [.ref o, .ref (g (100 + a1))] (ww_By_addString g o o_row (.ref o_row) o_length o_over o_row_n o_row_c) (ww_By_addString g o o_row (.ref o_row) r.1 r.2.1 o_row_n r.2.2) := by
  refine gx_go (by decide +kernel) rfl ?_
  intro p e s m below meth c ls S hr hlk hnm E hP hD hl
  have hS : va_S (va_A (ww_By_addString g o o_row (.ref o_row) o_length o_over o_row_n o_row_c) s.heap.size) s.heap s.heap [] := va_S.rf
  have hl : lv_has ls 3 [(0, .ref o), (1, .ref (g (100 + a1)))] := hl
  have c_2 : ∀ n : Nat, ∀ (v1 : Nat) (v2 : Int32) (o_lengthq : Int32) (o_overq : Int32) (o_row_cq : Nat → Int32) (ls : Array Slot) (H : Heap) (locs : List Loc), lv_has ls 3 [(0, .ref o), (1, .ref (g (100 + v1))), (2, .int v2)] → va_S (va_A (ww_By_addString g o o_row (.ref o_row) o_length o_over o_row_n o_row_c) s.heap.size) s.heap H locs → va_P D vwC (ww_By_addString g o o_row (.ref o_row) o_lengthq o_overq o_row_n o_row_cq) H → va_D (va_A (ww_By_addString g o o_row (.ref o_row) o_length o_over o_row_n o_row_c) s.heap.size) (ww_By_addString g o o_row (.ref o_row) o_lengthq o_overq o_row_n o_row_cq) → (f_By_addString_2 n v1 v2 o_row_n o_lengthq o_overq o_row_cq) = some r → W p l e ({ frames := 4, cells := 0, slots := 0, locals := 85 } : Room) s m ([.ref o, .ref (g (100 + a1))] : List Value).toArray below meth c H locs 0 0 (MQ below (gx_Qv D (ww_By_addString g o o_row (.ref o_row) o_length o_over o_row_n o_row_c) (ww_By_addString g o o_row (.ref o_row) r.1 r.2.1 o_row_n r.2.2) s.heap.size) ([.ref o, .ref (g (100 + a1))] : List Value).toArray s 0 0 (va_A (ww_By_addString g o o_row (.ref o_row) o_length o_over o_row_n o_row_c) s.heap.size)) (F0 m 2 ls []) := by
    intro n
    induction n with
    | zero => intro v1 v2 o_lengthq o_overq o_row_cq ls H locs hl hS hP hD hf; cases hf
    | succ n ih =>
      intro v1 v2 o_lengthq o_overq o_row_cq ls H locs hl hS hP hD hf
      have hf : (if v1 < 74 then (f_JStr_length v1).bind fun u4 => if u4 ≤ v2 then (some (o_lengthq, o_overq, o_row_cq)) else (if v1 < 74 then (f_JStr_charAt v1 v2).bind fun u13 => (f_By_add u13 o_row_n o_lengthq o_overq o_row_cq).bind fun u16 => f_By_addString_2 n v1 (v2 + 1) o_row_n u16.1 u16.2.1 u16.2.2 else none) else none) = some r := hf
      refine lv_iload_n S.1 S.2.1 d_By_addString_2 rfl (lv_at hl 2 rfl) ?_
      refine lv_aload_n S.1 S.2.1 d_By_addString_3 rfl (lv_at hl 1 rfl) ?_
      obtain ⟨hk4z, hf⟩ := gx_chk hf
      obtain ⟨u4, hc4, hf⟩ := gx_bnd hf
      refine gx_Vi (ws2 := (ww_By_addString g o o_row (.ref o_row) o_lengthq o_overq o_row_n o_row_cq)) S E hS hP hD (c_JStr_length l z D g v1 u4 hc4) cal_JStr_length wd_431 wd_432 wd_430 rfl [] rfl rfl rfl (gx_rcO (gx_stO E hk4z) hS) rfl hl.1 rfl d_By_addString_4 ⟨Nat.zero_le _, Nat.zero_le _⟩ rfl (fun H locs hS hP hD => ?_)
      refine lv_icmp_ge (tgt := 25) S.1 S.2.1 d_By_addString_7 (by decide) (fun h => ?_) (fun h => ?_)
      ·
        have hf := gx_ifp h hf
        obtain rfl := Option.some.inj hf
        exact gx_rv S hr hlk hS hP hD d_By_addString_25
      ·
        have hf := gx_ifn h hf
        refine lv_aload_n S.1 S.2.1 d_By_addString_10 rfl (lv_at hl 0 rfl) ?_
        refine lv_aload_n S.1 S.2.1 d_By_addString_11 rfl (lv_at hl 1 rfl) ?_
        refine lv_iload_n S.1 S.2.1 d_By_addString_12 rfl (lv_at hl 2 rfl) ?_
        obtain ⟨hk13z, hf⟩ := gx_chk hf
        obtain ⟨u13, hc13, hf⟩ := gx_bnd hf
        refine gx_Vi (ws2 := (ww_By_addString g o o_row (.ref o_row) o_lengthq o_overq o_row_n o_row_cq)) S E hS hP hD (c_JStr_charAt l z D g v1 v2 u13 hc13) cal_JStr_charAt wd_441 wd_442 wd_440 rfl [] rfl rfl rfl (gx_rcO (gx_stO E hk13z) hS) rfl hl.1 rfl d_By_addString_13 ⟨Nat.zero_le _, Nat.zero_le _⟩ rfl (fun H locs hS hP hD => ?_)
        obtain ⟨u16, hc16, hf⟩ := gx_bnd hf
        refine gx_Vv (ws2 := (ww_By_addString g o o_row (.ref o_row) u16.1 u16.2.1 o_row_n u16.2.2)) S E hS hP hD (c_By_add l z D g o o_row o_lengthq o_overq o_row_n o_row_cq u13 u16 hc16) cal_By_add wd_479 wd_480 wd_478 rfl [0, 1] rfl rfl rfl (gx_rc E hP 0 rfl rfl) rfl hl.1 rfl d_By_addString_16 ⟨Nat.zero_le _, Nat.zero_le _⟩ rfl (fun H locs hS hP hD => ?_)
        refine lv_iinc (v := v2 + 1) (lv' := [(2, .int (v2 + 1)), (0, .ref o), (1, .ref (g (100 + v1)))]) S.1 S.2.1 d_By_addString_19 hl (k := 2) rfl rfl (by decide) rfl (fun ls hl => ?_)
        refine lv_goto (tgt := 2) S.1 S.2.1 d_By_addString_22 (by decide) ?_
        exact ih v1 (v2 + 1) u16.1 u16.2.1 u16.2.2 ls _ _ (lv_sub hl [1, 2, 0] rfl) hS hP hD hf
  have hf : (f_By_addString_2 gx_fu a1 (0 : Int32) o_row_n o_length o_over o_row_c) = some r := hf
  refine lv_iconst (v := 0) S.1 S.2.1 d_By_addString_0 (by decide) ?_
  refine lv_istore_n (lv' := [(2, .int (0 : Int32)), (0, .ref o), (1, .ref (g (100 + a1)))]) S.1 S.2.1 d_By_addString_1 rfl hl (by decide) rfl (fun ls hl => ?_)
  exact c_2 gx_fu a1 (0 : Int32) o_length o_over o_row_c ls _ _ (lv_sub hl [1, 2, 0] rfl) hS hP hD hf
theorem d_By_addPart_0 : decode b_By_addPart 0 = .ok (.iload_n 2, 1) := by decide +kernel
theorem d_By_addPart_1 : decode b_By_addPart 1 = .ok (.iconst 0, 1) := by decide +kernel
theorem d_By_addPart_2 : decode b_By_addPart 2 = .ok (.invokestatic 23, 3) := by decide +kernel
theorem d_By_addPart_5 : decode b_By_addPart 5 = .ok (.aload_n 1, 1) := by decide +kernel
theorem d_By_addPart_6 : decode b_By_addPart 6 = .ok (.getfield 9, 3) := by decide +kernel
theorem d_By_addPart_9 : decode b_By_addPart 9 = .ok (.invokestatic 29, 3) := by decide +kernel
theorem d_By_addPart_12 : decode b_By_addPart 12 = .ok (.istore 4, 2) := by decide +kernel
theorem d_By_addPart_14 : decode b_By_addPart 14 = .ok (.iload_n 3, 1) := by decide +kernel
theorem d_By_addPart_15 : decode b_By_addPart 15 = .ok (.aload_n 1, 1) := by decide +kernel
theorem d_By_addPart_16 : decode b_By_addPart 16 = .ok (.getfield 9, 3) := by decide +kernel
theorem d_By_addPart_19 : decode b_By_addPart 19 = .ok (.invokestatic 29, 3) := by decide +kernel
theorem d_By_addPart_22 : decode b_By_addPart 22 = .ok (.iload 4, 2) := by decide +kernel
theorem d_By_addPart_24 : decode b_By_addPart 24 = .ok (.isub, 1) := by decide +kernel
theorem d_By_addPart_25 : decode b_By_addPart 25 = .ok (.iconst 0, 1) := by decide +kernel
theorem d_By_addPart_26 : decode b_By_addPart 26 = .ok (.invokestatic 23, 3) := by decide +kernel
theorem d_By_addPart_29 : decode b_By_addPart 29 = .ok (.istore 5, 2) := by decide +kernel
theorem d_By_addPart_31 : decode b_By_addPart 31 = .ok (.iload 5, 2) := by decide +kernel
theorem d_By_addPart_33 : decode b_By_addPart 33 = .ok (.aload_n 0, 1) := by decide +kernel
theorem d_By_addPart_34 : decode b_By_addPart 34 = .ok (.getfield 19, 3) := by decide +kernel
theorem d_By_addPart_37 : decode b_By_addPart 37 = .ok (.arraylength, 1) := by decide +kernel
theorem d_By_addPart_38 : decode b_By_addPart 38 = .ok (.aload_n 0, 1) := by decide +kernel
theorem d_By_addPart_39 : decode b_By_addPart 39 = .ok (.getfield 9, 3) := by decide +kernel
theorem d_By_addPart_42 : decode b_By_addPart 42 = .ok (.isub, 1) := by decide +kernel
theorem d_By_addPart_43 : decode b_By_addPart 43 = .ok (.invokestatic 29, 3) := by decide +kernel
theorem d_By_addPart_46 : decode b_By_addPart 46 = .ok (.istore 6, 2) := by decide +kernel
theorem d_By_addPart_48 : decode b_By_addPart 48 = .ok (.aload_n 1, 1) := by decide +kernel
theorem d_By_addPart_49 : decode b_By_addPart 49 = .ok (.getfield 19, 3) := by decide +kernel
theorem d_By_addPart_52 : decode b_By_addPart 52 = .ok (.iload 4, 2) := by decide +kernel
theorem d_By_addPart_54 : decode b_By_addPart 54 = .ok (.aload_n 0, 1) := by decide +kernel
theorem d_By_addPart_55 : decode b_By_addPart 55 = .ok (.getfield 19, 3) := by decide +kernel
theorem d_By_addPart_58 : decode b_By_addPart 58 = .ok (.aload_n 0, 1) := by decide +kernel
theorem d_By_addPart_59 : decode b_By_addPart 59 = .ok (.getfield 9, 3) := by decide +kernel
theorem d_By_addPart_62 : decode b_By_addPart 62 = .ok (.iload 6, 2) := by decide +kernel
theorem d_By_addPart_64 : decode b_By_addPart 64 = .ok (.invokestatic 45, 3) := by decide +kernel
theorem d_By_addPart_67 : decode b_By_addPart 67 = .ok (.aload_n 0, 1) := by decide +kernel
theorem d_By_addPart_68 : decode b_By_addPart 68 = .ok (.dup, 1) := by decide +kernel
theorem d_By_addPart_69 : decode b_By_addPart 69 = .ok (.getfield 9, 3) := by decide +kernel
theorem d_By_addPart_72 : decode b_By_addPart 72 = .ok (.iload 6, 2) := by decide +kernel
theorem d_By_addPart_74 : decode b_By_addPart 74 = .ok (.iadd, 1) := by decide +kernel
theorem d_By_addPart_75 : decode b_By_addPart 75 = .ok (.putfield 9, 3) := by decide +kernel
theorem d_By_addPart_78 : decode b_By_addPart 78 = .ok (.aload_n 0, 1) := by decide +kernel
theorem d_By_addPart_79 : decode b_By_addPart 79 = .ok (.aload_n 0, 1) := by decide +kernel
theorem d_By_addPart_80 : decode b_By_addPart 80 = .ok (.getfield 15, 3) := by decide +kernel
theorem d_By_addPart_83 : decode b_By_addPart 83 = .ok (.ifCond .ne 10, 3) := by decide +kernel
theorem d_By_addPart_86 : decode b_By_addPart 86 = .ok (.iload 6, 2) := by decide +kernel
theorem d_By_addPart_88 : decode b_By_addPart 88 = .ok (.iload 5, 2) := by decide +kernel
theorem d_By_addPart_90 : decode b_By_addPart 90 = .ok (.if_icmp .ge 7, 3) := by decide +kernel
theorem d_By_addPart_93 : decode b_By_addPart 93 = .ok (.iconst 1, 1) := by decide +kernel
theorem d_By_addPart_94 : decode b_By_addPart 94 = .ok (.goto 4, 3) := by decide +kernel
theorem d_By_addPart_97 : decode b_By_addPart 97 = .ok (.iconst 0, 1) := by decide +kernel
theorem d_By_addPart_98 : decode b_By_addPart 98 = .ok (.putfield 15, 3) := by decide +kernel
theorem d_By_addPart_101 : decode b_By_addPart 101 = .ok (.return_, 1) := by decide +kernel
theorem cal_By_addPart : gx_cal y_By_addPart b_By_addPart 7 none 3 := ⟨wd_1021, wd_2, by decide +kernel⟩
def ww_By_addPart (g : Nat → ClassId) (a1 : Nat) (o : Nat) (o_row : Nat) (a1_row : Nat) (x_a1_row : Value) (x_a1_length : Int32) (x_a1_over : Int32) (x_o_row : Value) (x_o_length : Int32) (x_o_over : Int32) (o_row_n : Nat) (y_o_row : Nat → Int32) (a1_row_n : Nat) (y_a1_row : Nat → Int32) : va_W := [(a1, .inr (3, [x_a1_row, .int x_a1_length, .int x_a1_over])), (o, .inr (3, [x_o_row, .int x_o_length, .int x_o_over])), (o_row, .inl (g 1, o_row_n, .inl y_o_row)), (a1_row, .inl (g 1, a1_row_n, .inl y_a1_row))]
def f_By_addPart_93 (o_row_n : Nat) (a1_row_n : Nat) (a1_length : Int32) (o_lengthq : Int32) (a1_row_c : Nat → Int32) (o_overq : Int32) (o_row_cq : Nat → Int32) : Option (Int32 × Int32 × (Nat → Int32)) := some (o_lengthq, (1 : Int32), o_row_cq)
def f_By_addPart (a2 : Int32) (a3 : Int32) (o_row_n : Nat) (a1_row_n : Nat) (a1_length : Int32) (o_length : Int32) (a1_row_c : Nat → Int32) (o_over : Int32) (o_row_c : Nat → Int32) : Option (Int32 × Int32 × (Nat → Int32)) := (f_JMath_max a2 (0 : Int32)).bind fun u2 => (f_JMath_min u2 a1_length).bind fun u9 => (f_JMath_min a3 a1_length).bind fun u19 => (f_JMath_max (u19 - u9) (0 : Int32)).bind fun u26 => (f_JMath_min u26 ((Int32.ofNat o_row_n) - o_length)).bind fun u43 => if gx_cpk u9 o_length u43 a1_row_n o_row_n = true then if gx_cpf .byte a1_row_c u9 u43 = true then if o_over = 0 then (if u26 ≤ u43 then (some (o_length + u43, (0 : Int32), va_cpy a1_row_c o_row_c u9.toNatClampNeg o_length.toNatClampNeg u43.toNatClampNeg)) else (f_By_addPart_93 o_row_n a1_row_n a1_length (o_length + u43) a1_row_c o_over (va_cpy a1_row_c o_row_c u9.toNatClampNeg o_length.toNatClampNeg u43.toNatClampNeg))) else (f_By_addPart_93 o_row_n a1_row_n a1_length (o_length + u43) a1_row_c o_over (va_cpy a1_row_c o_row_c u9.toNatClampNeg o_length.toNatClampNeg u43.toNatClampNeg)) else none else none
set_option maxHeartbeats 4000000 in
set_option maxRecDepth 100000 in
theorem c_By_addPart (l : Launch) (z : State) (D : va_G) (g : Nat → ClassId) (a1 : Nat) (o : Nat) (o_row : Nat) (a1_row : Nat) (a1_length : Int32) (a1_over : Int32) (o_length : Int32) (o_over : Int32) (o_row_n : Nat) (o_row_c : Nat → Int32) (a1_row_n : Nat) (a1_row_c : Nat → Int32) (a2 : Int32) (a3 : Int32) (r : Int32 × Int32 × (Nat → Int32)) (hf : f_By_addPart a2 a3 o_row_n a1_row_n a1_length o_length a1_row_c o_over o_row_c = some r) : gx_Mv l z D g y_By_addPart b_By_addPart 7 ({ frames := 1, cells := 0, slots := 0, locals := 26 } : Room) [.ref o, .ref a1, .int a2, .int a3] (ww_By_addPart g a1 o o_row a1_row (.ref a1_row) a1_length a1_over (.ref o_row) o_length o_over o_row_n o_row_c a1_row_n a1_row_c) (ww_By_addPart g a1 o o_row a1_row (.ref a1_row) a1_length a1_over (.ref o_row) r.1 r.2.1 o_row_n r.2.2 a1_row_n a1_row_c) := by
  refine gx_go (by decide +kernel) rfl ?_
  intro p e s m below meth c ls S hr hlk hnm E hP hD hl
  have hS : va_S (va_A (ww_By_addPart g a1 o o_row a1_row (.ref a1_row) a1_length a1_over (.ref o_row) o_length o_over o_row_n o_row_c a1_row_n a1_row_c) s.heap.size) s.heap s.heap [] := va_S.rf
  have hl : lv_has ls 7 [(0, .ref o), (1, .ref a1), (2, .int a2), (3, .int a3)] := hl
  have c_93 : ∀ (o_lengthq : Int32) (o_overq : Int32) (o_row_cq : Nat → Int32) (ls : Array Slot) (H : Heap) (locs : List Loc), lv_has ls 7 [] → va_S (va_A (ww_By_addPart g a1 o o_row a1_row (.ref a1_row) a1_length a1_over (.ref o_row) o_length o_over o_row_n o_row_c a1_row_n a1_row_c) s.heap.size) s.heap H locs → va_P D vwC (ww_By_addPart g a1 o o_row a1_row (.ref a1_row) a1_length a1_over (.ref o_row) o_lengthq o_overq o_row_n o_row_cq a1_row_n a1_row_c) H → va_D (va_A (ww_By_addPart g a1 o o_row a1_row (.ref a1_row) a1_length a1_over (.ref o_row) o_length o_over o_row_n o_row_c a1_row_n a1_row_c) s.heap.size) (ww_By_addPart g a1 o o_row a1_row (.ref a1_row) a1_length a1_over (.ref o_row) o_lengthq o_overq o_row_n o_row_cq a1_row_n a1_row_c) → (f_By_addPart_93 o_row_n a1_row_n a1_length o_lengthq a1_row_c o_overq o_row_cq) = some r → W p l e ({ frames := 1, cells := 0, slots := 0, locals := 26 } : Room) s m ([.ref o, .ref a1, .int a2, .int a3] : List Value).toArray below meth c H locs 0 0 (MQ below (gx_Qv D (ww_By_addPart g a1 o o_row a1_row (.ref a1_row) a1_length a1_over (.ref o_row) o_length o_over o_row_n o_row_c a1_row_n a1_row_c) (ww_By_addPart g a1 o o_row a1_row (.ref a1_row) a1_length a1_over (.ref o_row) r.1 r.2.1 o_row_n r.2.2 a1_row_n a1_row_c) s.heap.size) ([.ref o, .ref a1, .int a2, .int a3] : List Value).toArray s 0 0 (va_A (ww_By_addPart g a1 o o_row a1_row (.ref a1_row) a1_length a1_over (.ref o_row) o_length o_over o_row_n o_row_c a1_row_n a1_row_c) s.heap.size)) (F0 m 93 ls [.ref o]) := by
    intro o_lengthq o_overq o_row_cq ls H locs hl hS hP hD hf
    have hf : (some (o_lengthq, (1 : Int32), o_row_cq)) = some r := hf
    refine lv_iconst (v := 1) S.1 S.2.1 d_By_addPart_93 (by decide) ?_
    refine lv_goto (tgt := 98) S.1 S.2.1 d_By_addPart_94 (by decide) ?_
    refine gx_pf (v := .int (1 : Int32)) (ws2 := (ww_By_addPart g a1 o o_row a1_row (.ref a1_row) a1_length a1_over (.ref o_row) o_lengthq (1 : Int32) o_row_n o_row_cq a1_row_n a1_row_c)) S E hS hP hD 1 rfl rfl i_By k_By n_By 2 rfl wd_53 ⟨rfl, rfl, rfl, rfl⟩ (by decide +kernel) (by decide +kernel) rfl d_By_addPart_98 rfl (fun H locs hS hP hD => ?_)
    obtain rfl := Option.some.inj hf
    exact gx_rv S hr hlk hS hP hD d_By_addPart_101
  have hf : ((f_JMath_max a2 (0 : Int32)).bind fun u2 => (f_JMath_min u2 a1_length).bind fun u9 => (f_JMath_min a3 a1_length).bind fun u19 => (f_JMath_max (u19 - u9) (0 : Int32)).bind fun u26 => (f_JMath_min u26 ((Int32.ofNat o_row_n) - o_length)).bind fun u43 => if gx_cpk u9 o_length u43 a1_row_n o_row_n = true then if gx_cpf .byte a1_row_c u9 u43 = true then if o_over = 0 then (if u26 ≤ u43 then (some (o_length + u43, (0 : Int32), va_cpy a1_row_c o_row_c u9.toNatClampNeg o_length.toNatClampNeg u43.toNatClampNeg)) else (f_By_addPart_93 o_row_n a1_row_n a1_length (o_length + u43) a1_row_c o_over (va_cpy a1_row_c o_row_c u9.toNatClampNeg o_length.toNatClampNeg u43.toNatClampNeg))) else (f_By_addPart_93 o_row_n a1_row_n a1_length (o_length + u43) a1_row_c o_over (va_cpy a1_row_c o_row_c u9.toNatClampNeg o_length.toNatClampNeg u43.toNatClampNeg)) else none else none) = some r := hf
  refine lv_iload_n S.1 S.2.1 d_By_addPart_0 rfl (lv_at hl 2 rfl) ?_
  refine lv_iconst (v := 0) S.1 S.2.1 d_By_addPart_1 (by decide) ?_
  obtain ⟨u2, hc2, hf⟩ := gx_bnd hf
  refine gx_Si (ws2 := (ww_By_addPart g a1 o o_row a1_row (.ref a1_row) a1_length a1_over (.ref o_row) o_length o_over o_row_n o_row_c a1_row_n a1_row_c)) S E hS hP hD (c_JMath_max l z D g a2 (0 : Int32) u2 hc2) cal_JMath_max wd_411 wd_417 rfl [] rfl rfl rfl rfl hl.1 rfl d_By_addPart_2 ⟨Nat.zero_le _, Nat.zero_le _⟩ rfl (fun H locs hS hP hD => ?_)
  refine lv_aload_n S.1 S.2.1 d_By_addPart_5 rfl (lv_at hl 1 rfl) ?_
  refine gx_gf (v := .int a1_length) S E hP 0 rfl rfl i_By 1 rfl wd_48 ⟨rfl, rfl, rfl⟩ rfl d_By_addPart_6 ?_
  obtain ⟨u9, hc9, hf⟩ := gx_bnd hf
  refine gx_Si (ws2 := (ww_By_addPart g a1 o o_row a1_row (.ref a1_row) a1_length a1_over (.ref o_row) o_length o_over o_row_n o_row_c a1_row_n a1_row_c)) S E hS hP hD (c_JMath_min l z D g u2 a1_length u9 hc9) cal_JMath_min wd_419 wd_418 rfl [] rfl rfl rfl rfl hl.1 rfl d_By_addPart_9 ⟨Nat.zero_le _, Nat.zero_le _⟩ rfl (fun H locs hS hP hD => ?_)
  refine lv_istore (lv' := [(4, .int u9), (0, .ref o), (1, .ref a1), (2, .int a2), (3, .int a3)]) S.1 S.2.1 d_By_addPart_12 hl (by decide) rfl (fun ls hl => ?_)
  refine lv_iload_n S.1 S.2.1 d_By_addPart_14 rfl (lv_at hl 4 rfl) ?_
  refine lv_aload_n S.1 S.2.1 d_By_addPart_15 rfl (lv_at hl 2 rfl) ?_
  refine gx_gf (v := .int a1_length) S E hP 0 rfl rfl i_By 1 rfl wd_48 ⟨rfl, rfl, rfl⟩ rfl d_By_addPart_16 ?_
  obtain ⟨u19, hc19, hf⟩ := gx_bnd hf
  refine gx_Si (ws2 := (ww_By_addPart g a1 o o_row a1_row (.ref a1_row) a1_length a1_over (.ref o_row) o_length o_over o_row_n o_row_c a1_row_n a1_row_c)) S E hS hP hD (c_JMath_min l z D g a3 a1_length u19 hc19) cal_JMath_min wd_419 wd_418 rfl [] rfl rfl rfl rfl hl.1 rfl d_By_addPart_19 ⟨Nat.zero_le _, Nat.zero_le _⟩ rfl (fun H locs hS hP hD => ?_)
  refine lv_iload S.1 S.2.1 d_By_addPart_22 (lv_at hl 0 rfl) ?_
  refine lv_isub S.1 S.2.1 d_By_addPart_24 ?_
  refine lv_iconst (v := 0) S.1 S.2.1 d_By_addPart_25 (by decide) ?_
  obtain ⟨u26, hc26, hf⟩ := gx_bnd hf
  refine gx_Si (ws2 := (ww_By_addPart g a1 o o_row a1_row (.ref a1_row) a1_length a1_over (.ref o_row) o_length o_over o_row_n o_row_c a1_row_n a1_row_c)) S E hS hP hD (c_JMath_max l z D g (u19 - u9) (0 : Int32) u26 hc26) cal_JMath_max wd_411 wd_417 rfl [] rfl rfl rfl rfl hl.1 rfl d_By_addPart_26 ⟨Nat.zero_le _, Nat.zero_le _⟩ rfl (fun H locs hS hP hD => ?_)
  refine lv_istore (lv' := [(5, .int u26), (4, .int u9), (0, .ref o), (1, .ref a1), (2, .int a2), (3, .int a3)]) S.1 S.2.1 d_By_addPart_29 hl (by decide) rfl (fun ls hl => ?_)
  refine lv_iload S.1 S.2.1 d_By_addPart_31 (lv_at hl 0 rfl) ?_
  refine lv_aload_n S.1 S.2.1 d_By_addPart_33 rfl (lv_at hl 2 rfl) ?_
  refine gx_gf (v := .ref o_row) S E hP 1 rfl rfl i_By 0 rfl wd_47 ⟨rfl, rfl, rfl⟩ rfl d_By_addPart_34 ?_
  refine va_alen S.1 S.2.1 E.1.1 hP 2 1 rfl rfl rfl d_By_addPart_37 ?_
  refine lv_aload_n S.1 S.2.1 d_By_addPart_38 rfl (lv_at hl 2 rfl) ?_
  refine gx_gf (v := .int o_length) S E hP 1 rfl rfl i_By 1 rfl wd_48 ⟨rfl, rfl, rfl⟩ rfl d_By_addPart_39 ?_
  refine lv_isub S.1 S.2.1 d_By_addPart_42 ?_
  obtain ⟨u43, hc43, hf⟩ := gx_bnd hf
  refine gx_Si (ws2 := (ww_By_addPart g a1 o o_row a1_row (.ref a1_row) a1_length a1_over (.ref o_row) o_length o_over o_row_n o_row_c a1_row_n a1_row_c)) S E hS hP hD (c_JMath_min l z D g u26 ((Int32.ofNat o_row_n) - o_length) u43 hc43) cal_JMath_min wd_419 wd_418 rfl [] rfl rfl rfl rfl hl.1 rfl d_By_addPart_43 ⟨Nat.zero_le _, Nat.zero_le _⟩ rfl (fun H locs hS hP hD => ?_)
  refine lv_istore (lv' := [(6, .int u43), (5, .int u26), (4, .int u9), (0, .ref o), (1, .ref a1), (2, .int a2), (3, .int a3)]) S.1 S.2.1 d_By_addPart_46 hl (by decide) rfl (fun ls hl => ?_)
  refine lv_aload_n S.1 S.2.1 d_By_addPart_48 rfl (lv_at hl 4 rfl) ?_
  refine gx_gf (v := .ref a1_row) S E hP 0 rfl rfl i_By 0 rfl wd_47 ⟨rfl, rfl, rfl⟩ rfl d_By_addPart_49 ?_
  refine lv_iload S.1 S.2.1 d_By_addPart_52 (lv_at hl 2 rfl) ?_
  refine lv_aload_n S.1 S.2.1 d_By_addPart_54 rfl (lv_at hl 3 rfl) ?_
  refine gx_gf (v := .ref o_row) S E hP 1 rfl rfl i_By 0 rfl wd_47 ⟨rfl, rfl, rfl⟩ rfl d_By_addPart_55 ?_
  refine lv_aload_n S.1 S.2.1 d_By_addPart_58 rfl (lv_at hl 3 rfl) ?_
  refine gx_gf (v := .int o_length) S E hP 1 rfl rfl i_By 1 rfl wd_48 ⟨rfl, rfl, rfl⟩ rfl d_By_addPart_59 ?_
  refine lv_iload S.1 S.2.1 d_By_addPart_62 (lv_at hl 0 rfl) ?_
  obtain ⟨hin, hf⟩ := gx_chk hf
  obtain ⟨hfi, hf⟩ := gx_chk hf
  refine gx_cp (ws2 := (ww_By_addPart g a1 o o_row a1_row (.ref a1_row) a1_length a1_over (.ref o_row) o_length o_over o_row_n (va_cpy a1_row_c o_row_c u9.toNatClampNeg o_length.toNatClampNeg u43.toNatClampNeg) a1_row_n a1_row_c)) S E hS hP hD hl.1 wd_1022 wd_565 wd_564 wd_27 3 2 1 rfl rfl rfl rfl rfl hin hfi rfl rfl d_By_addPart_64 rfl (fun H locs hS hP hD => ?_)
  refine lv_aload_n S.1 S.2.1 d_By_addPart_67 rfl (lv_at hl 3 rfl) ?_
  refine lv_dup S.1 S.2.1 d_By_addPart_68 rfl ?_
  refine gx_gf (v := .int o_length) S E hP 1 rfl rfl i_By 1 rfl wd_48 ⟨rfl, rfl, rfl⟩ rfl d_By_addPart_69 ?_
  refine lv_iload S.1 S.2.1 d_By_addPart_72 (lv_at hl 0 rfl) ?_
  refine lv_iadd S.1 S.2.1 d_By_addPart_74 ?_
  refine gx_pf (v := .int (o_length + u43)) (ws2 := (ww_By_addPart g a1 o o_row a1_row (.ref a1_row) a1_length a1_over (.ref o_row) (o_length + u43) o_over o_row_n (va_cpy a1_row_c o_row_c u9.toNatClampNeg o_length.toNatClampNeg u43.toNatClampNeg) a1_row_n a1_row_c)) S E hS hP hD 1 rfl rfl i_By k_By n_By 1 rfl wd_48 ⟨rfl, rfl, rfl, rfl⟩ rfl rfl rfl d_By_addPart_75 rfl (fun H locs hS hP hD => ?_)
  refine lv_aload_n S.1 S.2.1 d_By_addPart_78 rfl (lv_at hl 3 rfl) ?_
  refine lv_aload_n S.1 S.2.1 d_By_addPart_79 rfl (lv_at hl 3 rfl) ?_
  refine gx_gf (v := .int o_over) S E hP 1 rfl rfl i_By 2 rfl wd_53 ⟨rfl, rfl, rfl⟩ rfl d_By_addPart_80 ?_
  refine lv_if_ne (tgt := 93) S.1 S.2.1 d_By_addPart_83 (by decide) (fun h => ?_) (fun h => ?_)
  ·
    have hf := gx_ifn h hf
    exact c_93 (o_length + u43) o_over (va_cpy a1_row_c o_row_c u9.toNatClampNeg o_length.toNatClampNeg u43.toNatClampNeg) ls _ _ (lv_sub hl [] rfl) hS hP hD hf
  ·
    have hf := gx_ifp h hf
    refine lv_iload S.1 S.2.1 d_By_addPart_86 (lv_at hl 0 rfl) ?_
    refine lv_iload S.1 S.2.1 d_By_addPart_88 (lv_at hl 1 rfl) ?_
    refine lv_icmp_ge (tgt := 97) S.1 S.2.1 d_By_addPart_90 (by decide) (fun h => ?_) (fun h => ?_)
    ·
      have hf := gx_ifp h hf
      refine lv_iconst (v := 0) S.1 S.2.1 d_By_addPart_97 (by decide) ?_
      refine gx_pf (v := .int (0 : Int32)) (ws2 := (ww_By_addPart g a1 o o_row a1_row (.ref a1_row) a1_length a1_over (.ref o_row) (o_length + u43) (0 : Int32) o_row_n (va_cpy a1_row_c o_row_c u9.toNatClampNeg o_length.toNatClampNeg u43.toNatClampNeg) a1_row_n a1_row_c)) S E hS hP hD 1 rfl rfl i_By k_By n_By 2 rfl wd_53 ⟨rfl, rfl, rfl, rfl⟩ (by decide +kernel) (by decide +kernel) rfl d_By_addPart_98 rfl (fun H locs hS hP hD => ?_)
      obtain rfl := Option.some.inj hf
      exact gx_rv S hr hlk hS hP hD d_By_addPart_101
    ·
      have hf := gx_ifn h hf
      exact c_93 (o_length + u43) o_over (va_cpy a1_row_c o_row_c u9.toNatClampNeg o_length.toNatClampNeg u43.toNatClampNeg) ls _ _ (lv_sub hl [] rfl) hS hP hD hf
theorem d_By_copy_0 : decode b_By_copy 0 = .ok (.aload_n 0, 1) := by decide +kernel
theorem d_By_copy_1 : decode b_By_copy 1 = .ok (.iconst 0, 1) := by decide +kernel
theorem d_By_copy_2 : decode b_By_copy 2 = .ok (.invokevirtual 51, 3) := by decide +kernel
theorem d_By_copy_5 : decode b_By_copy 5 = .ok (.aload_n 0, 1) := by decide +kernel
theorem d_By_copy_6 : decode b_By_copy 6 = .ok (.aload_n 1, 1) := by decide +kernel
theorem d_By_copy_7 : decode b_By_copy 7 = .ok (.iconst 0, 1) := by decide +kernel
theorem d_By_copy_8 : decode b_By_copy 8 = .ok (.aload_n 1, 1) := by decide +kernel
theorem d_By_copy_9 : decode b_By_copy 9 = .ok (.getfield 9, 3) := by decide +kernel
theorem d_By_copy_12 : decode b_By_copy 12 = .ok (.invokevirtual 54, 3) := by decide +kernel
theorem d_By_copy_15 : decode b_By_copy 15 = .ok (.return_, 1) := by decide +kernel
theorem cal_By_copy : gx_cal y_By_copy b_By_copy 2 none 1 := ⟨wd_1060, wd_2, by decide +kernel⟩
def ww_By_copy (g : Nat → ClassId) (o : Nat) (a1 : Nat) (o_row : Nat) (a1_row : Nat) (x_o_row : Value) (x_o_length : Int32) (x_o_over : Int32) (x_a1_row : Value) (x_a1_length : Int32) (x_a1_over : Int32) (o_row_n : Nat) (y_o_row : Nat → Int32) (a1_row_n : Nat) (y_a1_row : Nat → Int32) : va_W := [(o, .inr (3, [x_o_row, .int x_o_length, .int x_o_over])), (a1, .inr (3, [x_a1_row, .int x_a1_length, .int x_a1_over])), (o_row, .inl (g 1, o_row_n, .inl y_o_row)), (a1_row, .inl (g 1, a1_row_n, .inl y_a1_row))]
def f_By_copy (o_row_n : Nat) (a1_row_n : Nat) (o_length : Int32) (a1_length : Int32) (a1_row_c : Nat → Int32) (o_over : Int32) (o_row_c : Nat → Int32) : Option (Int32 × Int32 × (Nat → Int32)) := (f_By_keep (0 : Int32) o_length o_over).bind fun u2 => (f_By_addPart (0 : Int32) a1_length o_row_n a1_row_n a1_length u2.1 a1_row_c u2.2 o_row_c).bind fun u12 => some (u12.1, u12.2.1, u12.2.2)
set_option maxHeartbeats 4000000 in
set_option maxRecDepth 100000 in
theorem c_By_copy (l : Launch) (z : State) (D : va_G) (g : Nat → ClassId) (o : Nat) (a1 : Nat) (o_row : Nat) (a1_row : Nat) (o_length : Int32) (o_over : Int32) (a1_length : Int32) (a1_over : Int32) (o_row_n : Nat) (o_row_c : Nat → Int32) (a1_row_n : Nat) (a1_row_c : Nat → Int32) (r : Int32 × Int32 × (Nat → Int32)) (hf : f_By_copy o_row_n a1_row_n o_length a1_length a1_row_c o_over o_row_c = some r) : gx_Mv l z D g y_By_copy b_By_copy 2 ({ frames := 2, cells := 0, slots := 0, locals := 52 } : Room) [.ref o, .ref a1] (ww_By_copy g o a1 o_row a1_row (.ref o_row) o_length o_over (.ref a1_row) a1_length a1_over o_row_n o_row_c a1_row_n a1_row_c) (ww_By_copy g o a1 o_row a1_row (.ref o_row) r.1 r.2.1 (.ref a1_row) a1_length a1_over o_row_n r.2.2 a1_row_n a1_row_c) := by
  refine gx_go (by decide +kernel) rfl ?_
  intro p e s m below meth c ls S hr hlk hnm E hP hD hl
  have hS : va_S (va_A (ww_By_copy g o a1 o_row a1_row (.ref o_row) o_length o_over (.ref a1_row) a1_length a1_over o_row_n o_row_c a1_row_n a1_row_c) s.heap.size) s.heap s.heap [] := va_S.rf
  have hl : lv_has ls 2 [(0, .ref o), (1, .ref a1)] := hl
  have hf : ((f_By_keep (0 : Int32) o_length o_over).bind fun u2 => (f_By_addPart (0 : Int32) a1_length o_row_n a1_row_n a1_length u2.1 a1_row_c u2.2 o_row_c).bind fun u12 => some (u12.1, u12.2.1, u12.2.2)) = some r := hf
  refine lv_aload_n S.1 S.2.1 d_By_copy_0 rfl (lv_at hl 0 rfl) ?_
  refine lv_iconst (v := 0) S.1 S.2.1 d_By_copy_1 (by decide) ?_
  obtain ⟨u2, hc2, hf⟩ := gx_bnd hf
  refine gx_Vv (ws2 := (ww_By_copy g o a1 o_row a1_row (.ref o_row) u2.1 u2.2 (.ref a1_row) a1_length a1_over o_row_n o_row_c a1_row_n a1_row_c)) S E hS hP hD (c_By_keep l z D g o (.ref o_row) o_length o_over (0 : Int32) u2 hc2) cal_By_keep wd_414 wd_415 wd_1061 rfl [0] rfl rfl rfl (gx_rc E hP 0 rfl rfl) rfl hl.1 rfl d_By_copy_2 ⟨Nat.zero_le _, Nat.zero_le _⟩ rfl (fun H locs hS hP hD => ?_)
  refine lv_aload_n S.1 S.2.1 d_By_copy_5 rfl (lv_at hl 0 rfl) ?_
  refine lv_aload_n S.1 S.2.1 d_By_copy_6 rfl (lv_at hl 1 rfl) ?_
  refine lv_iconst (v := 0) S.1 S.2.1 d_By_copy_7 (by decide) ?_
  refine lv_aload_n S.1 S.2.1 d_By_copy_8 rfl (lv_at hl 1 rfl) ?_
  refine gx_gf (v := .int a1_length) S E hP 1 rfl rfl i_By 1 rfl wd_48 ⟨rfl, rfl, rfl⟩ rfl d_By_copy_9 ?_
  obtain ⟨u12, hc12, hf⟩ := gx_bnd hf
  refine gx_Vv (ws2 := (ww_By_copy g o a1 o_row a1_row (.ref o_row) u12.1 u12.2.1 (.ref a1_row) a1_length a1_over o_row_n u12.2.2 a1_row_n a1_row_c)) S E hS hP hD (c_By_addPart l z D g a1 o o_row a1_row a1_length a1_over u2.1 u2.2 o_row_n o_row_c a1_row_n a1_row_c (0 : Int32) a1_length u12 hc12) cal_By_addPart wd_1019 wd_1020 wd_1062 rfl [1, 0, 2, 3] rfl rfl rfl (gx_rc E hP 0 rfl rfl) rfl hl.1 rfl d_By_copy_12 ⟨Nat.zero_le _, Nat.zero_le _⟩ rfl (fun H locs hS hP hD => ?_)
  obtain rfl := Option.some.inj hf
  exact gx_rv S hr hlk hS hP hD d_By_copy_15
theorem d_By_addNumber_0 : decode b_By_addNumber 0 = .ok (.sipush 1000, 3) := by decide +kernel
theorem d_By_addNumber_3 : decode b_By_addNumber 3 = .ok (.istore_n 3, 1) := by decide +kernel
theorem d_By_addNumber_4 : decode b_By_addNumber 4 = .ok (.iconst 4, 1) := by decide +kernel
theorem d_By_addNumber_5 : decode b_By_addNumber 5 = .ok (.istore 4, 2) := by decide +kernel
theorem d_By_addNumber_7 : decode b_By_addNumber 7 = .ok (.iload 4, 2) := by decide +kernel
theorem d_By_addNumber_9 : decode b_By_addNumber 9 = .ok (.ifCond .le 42, 3) := by decide +kernel
theorem d_By_addNumber_12 : decode b_By_addNumber 12 = .ok (.iload_n 1, 1) := by decide +kernel
theorem d_By_addNumber_13 : decode b_By_addNumber 13 = .ok (.iload_n 3, 1) := by decide +kernel
theorem d_By_addNumber_14 : decode b_By_addNumber 14 = .ok (.if_icmp .ge 9, 3) := by decide +kernel
theorem d_By_addNumber_17 : decode b_By_addNumber 17 = .ok (.iload 4, 2) := by decide +kernel
theorem d_By_addNumber_19 : decode b_By_addNumber 19 = .ok (.iload_n 2, 1) := by decide +kernel
theorem d_By_addNumber_20 : decode b_By_addNumber 20 = .ok (.if_icmp .gt 16, 3) := by decide +kernel
theorem d_By_addNumber_23 : decode b_By_addNumber 23 = .ok (.aload_n 0, 1) := by decide +kernel
theorem d_By_addNumber_24 : decode b_By_addNumber 24 = .ok (.bipush 48, 2) := by decide +kernel
theorem d_By_addNumber_26 : decode b_By_addNumber 26 = .ok (.iload_n 1, 1) := by decide +kernel
theorem d_By_addNumber_27 : decode b_By_addNumber 27 = .ok (.iload_n 3, 1) := by decide +kernel
theorem d_By_addNumber_28 : decode b_By_addNumber 28 = .ok (.idiv, 1) := by decide +kernel
theorem d_By_addNumber_29 : decode b_By_addNumber 29 = .ok (.bipush 10, 2) := by decide +kernel
theorem d_By_addNumber_31 : decode b_By_addNumber 31 = .ok (.irem, 1) := by decide +kernel
theorem d_By_addNumber_32 : decode b_By_addNumber 32 = .ok (.iadd, 1) := by decide +kernel
theorem d_By_addNumber_33 : decode b_By_addNumber 33 = .ok (.invokevirtual 32, 3) := by decide +kernel
theorem d_By_addNumber_36 : decode b_By_addNumber 36 = .ok (.iload_n 3, 1) := by decide +kernel
theorem d_By_addNumber_37 : decode b_By_addNumber 37 = .ok (.bipush 10, 2) := by decide +kernel
theorem d_By_addNumber_39 : decode b_By_addNumber 39 = .ok (.idiv, 1) := by decide +kernel
theorem d_By_addNumber_40 : decode b_By_addNumber 40 = .ok (.iconst 1, 1) := by decide +kernel
theorem d_By_addNumber_41 : decode b_By_addNumber 41 = .ok (.invokestatic 23, 3) := by decide +kernel
theorem d_By_addNumber_44 : decode b_By_addNumber 44 = .ok (.istore_n 3, 1) := by decide +kernel
theorem d_By_addNumber_45 : decode b_By_addNumber 45 = .ok (.iinc 4 (-1), 3) := by decide +kernel
theorem d_By_addNumber_48 : decode b_By_addNumber 48 = .ok (.goto (-41), 3) := by decide +kernel
theorem d_By_addNumber_51 : decode b_By_addNumber 51 = .ok (.return_, 1) := by decide +kernel
theorem cal_By_addNumber : gx_cal y_By_addNumber b_By_addNumber 5 none 2 := ⟨wd_618, wd_2, by decide +kernel⟩
def ww_By_addNumber (g : Nat → ClassId) (o : Nat) (o_row : Nat) (x_o_row : Value) (x_o_length : Int32) (x_o_over : Int32) (o_row_n : Nat) (y_o_row : Nat → Int32) : va_W := [(o, .inr (3, [x_o_row, .int x_o_length, .int x_o_over])), (o_row, .inl (g 1, o_row_n, .inl y_o_row))]
def f_By_addNumber_36 (k7 : Int32 → Int32 → Int32 → Int32 → Nat → Int32 → Int32 → (Nat → Int32) → Option (Int32 × Int32 × (Nat → Int32))) (v1 : Int32) (v2 : Int32) (v3 : Int32) (v4 : Int32) (o_row_n : Nat) (o_lengthq : Int32) (o_overq : Int32) (o_row_cq : Nat → Int32) : Option (Int32 × Int32 × (Nat → Int32)) := (f_JMath_max (v3 / (10 : Int32)) (1 : Int32)).bind fun u41 => k7 v1 v2 u41 (v4 + (-1)) o_row_n o_lengthq o_overq o_row_cq
def f_By_addNumber_23 (k7 : Int32 → Int32 → Int32 → Int32 → Nat → Int32 → Int32 → (Nat → Int32) → Option (Int32 × Int32 × (Nat → Int32))) (v1 : Int32) (v2 : Int32) (v3 : Int32) (v4 : Int32) (o_row_n : Nat) (o_lengthq : Int32) (o_overq : Int32) (o_row_cq : Nat → Int32) : Option (Int32 × Int32 × (Nat → Int32)) := if ¬ v3 = 0 then (f_By_add ((48 : Int32) + ((v1 / v3) - (v1 / v3) / (10 : Int32) * (10 : Int32))) o_row_n o_lengthq o_overq o_row_cq).bind fun u33 => f_By_addNumber_36 k7 v1 v2 v3 v4 o_row_n u33.1 u33.2.1 u33.2.2 else none
def f_By_addNumber_7 : Nat → Int32 → Int32 → Int32 → Int32 → Nat → Int32 → Int32 → (Nat → Int32) → Option (Int32 × Int32 × (Nat → Int32))
  | 0, _, _, _, _, _, _, _, _ => none
  | n + 1, v1, v2, v3, v4, o_row_n, o_lengthq, o_overq, o_row_cq => if v4 ≤ 0 then (some (o_lengthq, o_overq, o_row_cq)) else (if v3 ≤ v1 then (f_By_addNumber_23 (fun v1 v2 v3 v4 o_row_n o_lengthq o_overq o_row_cq => f_By_addNumber_7 n v1 v2 v3 v4 o_row_n o_lengthq o_overq o_row_cq) v1 v2 v3 v4 o_row_n o_lengthq o_overq o_row_cq) else (if v2 < v4 then (f_By_addNumber_36 (fun v1 v2 v3 v4 o_row_n o_lengthq o_overq o_row_cq => f_By_addNumber_7 n v1 v2 v3 v4 o_row_n o_lengthq o_overq o_row_cq) v1 v2 v3 v4 o_row_n o_lengthq o_overq o_row_cq) else (f_By_addNumber_23 (fun v1 v2 v3 v4 o_row_n o_lengthq o_overq o_row_cq => f_By_addNumber_7 n v1 v2 v3 v4 o_row_n o_lengthq o_overq o_row_cq) v1 v2 v3 v4 o_row_n o_lengthq o_overq o_row_cq)))
def f_By_addNumber (a1 : Int32) (a2 : Int32) (o_row_n : Nat) (o_length : Int32) (o_over : Int32) (o_row_c : Nat → Int32) : Option (Int32 × Int32 × (Nat → Int32)) := f_By_addNumber_7 gx_fu a1 a2 (1000 : Int32) (4 : Int32) o_row_n o_length o_over o_row_c
set_option maxHeartbeats 4000000 in
set_option maxRecDepth 100000 in
theorem c_By_addNumber (l : Launch) (z : State) (D : va_G) (g : Nat → ClassId) (o : Nat) (o_row : Nat) (o_length : Int32) (o_over : Int32) (o_row_n : Nat) (o_row_c : Nat → Int32) (a1 : Int32) (a2 : Int32) (r : Int32 × Int32 × (Nat → Int32)) (hf : f_By_addNumber a1 a2 o_row_n o_length o_over o_row_c = some r) : gx_Mv l z D g y_By_addNumber b_By_addNumber 5 ({ frames := 1, cells := 0, slots := 0, locals := 21 } : Room) [.ref o, .int a1, .int a2] (ww_By_addNumber g o o_row (.ref o_row) o_length o_over o_row_n o_row_c) (ww_By_addNumber g o o_row (.ref o_row) r.1 r.2.1 o_row_n r.2.2) := by
  refine gx_go (by decide +kernel) rfl ?_
  intro p e s m below meth c ls S hr hlk hnm E hP hD hl
  have hS : va_S (va_A (ww_By_addNumber g o o_row (.ref o_row) o_length o_over o_row_n o_row_c) s.heap.size) s.heap s.heap [] := va_S.rf
  have hl : lv_has ls 5 [(0, .ref o), (1, .int a1), (2, .int a2)] := hl
  have c_36 : ∀ (k7 : Int32 → Int32 → Int32 → Int32 → Nat → Int32 → Int32 → (Nat → Int32) → Option (Int32 × Int32 × (Nat → Int32))) (hk7 : ∀ (v1 : Int32) (v2 : Int32) (v3 : Int32) (v4 : Int32) (o_lengthq : Int32) (o_overq : Int32) (o_row_cq : Nat → Int32) (ls : Array Slot) (H : Heap) (locs : List Loc), lv_has ls 5 [(0, .ref o), (1, .int v1), (2, .int v2), (3, .int v3), (4, .int v4)] → va_S (va_A (ww_By_addNumber g o o_row (.ref o_row) o_length o_over o_row_n o_row_c) s.heap.size) s.heap H locs → va_P D vwC (ww_By_addNumber g o o_row (.ref o_row) o_lengthq o_overq o_row_n o_row_cq) H → va_D (va_A (ww_By_addNumber g o o_row (.ref o_row) o_length o_over o_row_n o_row_c) s.heap.size) (ww_By_addNumber g o o_row (.ref o_row) o_lengthq o_overq o_row_n o_row_cq) → (k7 v1 v2 v3 v4 o_row_n o_lengthq o_overq o_row_cq) = some r → W p l e ({ frames := 1, cells := 0, slots := 0, locals := 21 } : Room) s m ([.ref o, .int a1, .int a2] : List Value).toArray below meth c H locs 0 0 (MQ below (gx_Qv D (ww_By_addNumber g o o_row (.ref o_row) o_length o_over o_row_n o_row_c) (ww_By_addNumber g o o_row (.ref o_row) r.1 r.2.1 o_row_n r.2.2) s.heap.size) ([.ref o, .int a1, .int a2] : List Value).toArray s 0 0 (va_A (ww_By_addNumber g o o_row (.ref o_row) o_length o_over o_row_n o_row_c) s.heap.size)) (F0 m 7 ls [])), ∀ (v1 : Int32) (v2 : Int32) (v3 : Int32) (v4 : Int32) (o_lengthq : Int32) (o_overq : Int32) (o_row_cq : Nat → Int32) (ls : Array Slot) (H : Heap) (locs : List Loc), lv_has ls 5 [(0, .ref o), (1, .int v1), (2, .int v2), (3, .int v3), (4, .int v4)] → va_S (va_A (ww_By_addNumber g o o_row (.ref o_row) o_length o_over o_row_n o_row_c) s.heap.size) s.heap H locs → va_P D vwC (ww_By_addNumber g o o_row (.ref o_row) o_lengthq o_overq o_row_n o_row_cq) H → va_D (va_A (ww_By_addNumber g o o_row (.ref o_row) o_length o_over o_row_n o_row_c) s.heap.size) (ww_By_addNumber g o o_row (.ref o_row) o_lengthq o_overq o_row_n o_row_cq) → (f_By_addNumber_36 k7 v1 v2 v3 v4 o_row_n o_lengthq o_overq o_row_cq) = some r → W p l e ({ frames := 1, cells := 0, slots := 0, locals := 21 } : Room) s m ([.ref o, .int a1, .int a2] : List Value).toArray below meth c H locs 0 0 (MQ below (gx_Qv D (ww_By_addNumber g o o_row (.ref o_row) o_length o_over o_row_n o_row_c) (ww_By_addNumber g o o_row (.ref o_row) r.1 r.2.1 o_row_n r.2.2) s.heap.size) ([.ref o, .int a1, .int a2] : List Value).toArray s 0 0 (va_A (ww_By_addNumber g o o_row (.ref o_row) o_length o_over o_row_n o_row_c) s.heap.size)) (F0 m 36 ls []) := by
    intro k7 hk7
    intro v1 v2 v3 v4 o_lengthq o_overq o_row_cq ls H locs hl hS hP hD hf
    have hf : ((f_JMath_max (v3 / (10 : Int32)) (1 : Int32)).bind fun u41 => k7 v1 v2 u41 (v4 + (-1)) o_row_n o_lengthq o_overq o_row_cq) = some r := hf
    refine lv_iload_n S.1 S.2.1 d_By_addNumber_36 rfl (lv_at hl 3 rfl) ?_
    refine lv_bipush (v := 10) S.1 S.2.1 d_By_addNumber_37 (by decide) ?_
    refine lv_idiv S.1 S.2.1 d_By_addNumber_39 (by decide) ?_
    refine lv_iconst (v := 1) S.1 S.2.1 d_By_addNumber_40 (by decide) ?_
    obtain ⟨u41, hc41, hf⟩ := gx_bnd hf
    refine gx_Si (ws2 := (ww_By_addNumber g o o_row (.ref o_row) o_lengthq o_overq o_row_n o_row_cq)) S E hS hP hD (c_JMath_max l z D g (v3 / (10 : Int32)) (1 : Int32) u41 hc41) cal_JMath_max wd_411 wd_417 rfl [] rfl rfl rfl rfl hl.1 rfl d_By_addNumber_41 ⟨Nat.zero_le _, Nat.zero_le _⟩ rfl (fun H locs hS hP hD => ?_)
    refine lv_istore_n (lv' := [(3, .int u41), (0, .ref o), (1, .int v1), (2, .int v2), (4, .int v4)]) S.1 S.2.1 d_By_addNumber_44 rfl hl (by decide) rfl (fun ls hl => ?_)
    refine lv_iinc (v := v4 + (-1)) (lv' := [(4, .int (v4 + (-1))), (3, .int u41), (0, .ref o), (1, .int v1), (2, .int v2)]) S.1 S.2.1 d_By_addNumber_45 hl (k := 4) rfl rfl (by decide) rfl (fun ls hl => ?_)
    refine lv_goto (tgt := 7) S.1 S.2.1 d_By_addNumber_48 (by decide) ?_
    exact hk7 v1 v2 u41 (v4 + (-1)) o_lengthq o_overq o_row_cq ls _ _ (lv_sub hl [2, 3, 4, 1, 0] rfl) hS hP hD hf
  have c_23 : ∀ (k7 : Int32 → Int32 → Int32 → Int32 → Nat → Int32 → Int32 → (Nat → Int32) → Option (Int32 × Int32 × (Nat → Int32))) (hk7 : ∀ (v1 : Int32) (v2 : Int32) (v3 : Int32) (v4 : Int32) (o_lengthq : Int32) (o_overq : Int32) (o_row_cq : Nat → Int32) (ls : Array Slot) (H : Heap) (locs : List Loc), lv_has ls 5 [(0, .ref o), (1, .int v1), (2, .int v2), (3, .int v3), (4, .int v4)] → va_S (va_A (ww_By_addNumber g o o_row (.ref o_row) o_length o_over o_row_n o_row_c) s.heap.size) s.heap H locs → va_P D vwC (ww_By_addNumber g o o_row (.ref o_row) o_lengthq o_overq o_row_n o_row_cq) H → va_D (va_A (ww_By_addNumber g o o_row (.ref o_row) o_length o_over o_row_n o_row_c) s.heap.size) (ww_By_addNumber g o o_row (.ref o_row) o_lengthq o_overq o_row_n o_row_cq) → (k7 v1 v2 v3 v4 o_row_n o_lengthq o_overq o_row_cq) = some r → W p l e ({ frames := 1, cells := 0, slots := 0, locals := 21 } : Room) s m ([.ref o, .int a1, .int a2] : List Value).toArray below meth c H locs 0 0 (MQ below (gx_Qv D (ww_By_addNumber g o o_row (.ref o_row) o_length o_over o_row_n o_row_c) (ww_By_addNumber g o o_row (.ref o_row) r.1 r.2.1 o_row_n r.2.2) s.heap.size) ([.ref o, .int a1, .int a2] : List Value).toArray s 0 0 (va_A (ww_By_addNumber g o o_row (.ref o_row) o_length o_over o_row_n o_row_c) s.heap.size)) (F0 m 7 ls [])), ∀ (v1 : Int32) (v2 : Int32) (v3 : Int32) (v4 : Int32) (o_lengthq : Int32) (o_overq : Int32) (o_row_cq : Nat → Int32) (ls : Array Slot) (H : Heap) (locs : List Loc), lv_has ls 5 [(0, .ref o), (1, .int v1), (2, .int v2), (3, .int v3), (4, .int v4)] → va_S (va_A (ww_By_addNumber g o o_row (.ref o_row) o_length o_over o_row_n o_row_c) s.heap.size) s.heap H locs → va_P D vwC (ww_By_addNumber g o o_row (.ref o_row) o_lengthq o_overq o_row_n o_row_cq) H → va_D (va_A (ww_By_addNumber g o o_row (.ref o_row) o_length o_over o_row_n o_row_c) s.heap.size) (ww_By_addNumber g o o_row (.ref o_row) o_lengthq o_overq o_row_n o_row_cq) → (f_By_addNumber_23 k7 v1 v2 v3 v4 o_row_n o_lengthq o_overq o_row_cq) = some r → W p l e ({ frames := 1, cells := 0, slots := 0, locals := 21 } : Room) s m ([.ref o, .int a1, .int a2] : List Value).toArray below meth c H locs 0 0 (MQ below (gx_Qv D (ww_By_addNumber g o o_row (.ref o_row) o_length o_over o_row_n o_row_c) (ww_By_addNumber g o o_row (.ref o_row) r.1 r.2.1 o_row_n r.2.2) s.heap.size) ([.ref o, .int a1, .int a2] : List Value).toArray s 0 0 (va_A (ww_By_addNumber g o o_row (.ref o_row) o_length o_over o_row_n o_row_c) s.heap.size)) (F0 m 23 ls []) := by
    intro k7 hk7
    intro v1 v2 v3 v4 o_lengthq o_overq o_row_cq ls H locs hl hS hP hD hf
    have hf : (if ¬ v3 = 0 then (f_By_add ((48 : Int32) + ((v1 / v3) - (v1 / v3) / (10 : Int32) * (10 : Int32))) o_row_n o_lengthq o_overq o_row_cq).bind fun u33 => f_By_addNumber_36 k7 v1 v2 v3 v4 o_row_n u33.1 u33.2.1 u33.2.2 else none) = some r := hf
    refine lv_aload_n S.1 S.2.1 d_By_addNumber_23 rfl (lv_at hl 0 rfl) ?_
    refine lv_bipush (v := 48) S.1 S.2.1 d_By_addNumber_24 (by decide) ?_
    refine lv_iload_n S.1 S.2.1 d_By_addNumber_26 rfl (lv_at hl 1 rfl) ?_
    refine lv_iload_n S.1 S.2.1 d_By_addNumber_27 rfl (lv_at hl 3 rfl) ?_
    obtain ⟨hne, hf⟩ := gx_chk hf
    refine lv_idiv S.1 S.2.1 d_By_addNumber_28 hne ?_
    refine lv_bipush (v := 10) S.1 S.2.1 d_By_addNumber_29 (by decide) ?_
    refine lv_irem S.1 S.2.1 d_By_addNumber_31 (by decide) ?_
    refine lv_iadd S.1 S.2.1 d_By_addNumber_32 ?_
    obtain ⟨u33, hc33, hf⟩ := gx_bnd hf
    refine gx_Vv (ws2 := (ww_By_addNumber g o o_row (.ref o_row) u33.1 u33.2.1 o_row_n u33.2.2)) S E hS hP hD (c_By_add l z D g o o_row o_lengthq o_overq o_row_n o_row_cq ((48 : Int32) + ((v1 / v3) - (v1 / v3) / (10 : Int32) * (10 : Int32))) u33 hc33) cal_By_add wd_479 wd_480 wd_478 rfl [0, 1] rfl rfl rfl (gx_rc E hP 0 rfl rfl) rfl hl.1 rfl d_By_addNumber_33 ⟨Nat.zero_le _, Nat.zero_le _⟩ rfl (fun H locs hS hP hD => ?_)
    exact c_36 k7 hk7 v1 v2 v3 v4 u33.1 u33.2.1 u33.2.2 ls _ _ (lv_sub hl [0, 1, 2, 3, 4] rfl) hS hP hD hf
  have c_7 : ∀ n : Nat, ∀ (v1 : Int32) (v2 : Int32) (v3 : Int32) (v4 : Int32) (o_lengthq : Int32) (o_overq : Int32) (o_row_cq : Nat → Int32) (ls : Array Slot) (H : Heap) (locs : List Loc), lv_has ls 5 [(0, .ref o), (1, .int v1), (2, .int v2), (3, .int v3), (4, .int v4)] → va_S (va_A (ww_By_addNumber g o o_row (.ref o_row) o_length o_over o_row_n o_row_c) s.heap.size) s.heap H locs → va_P D vwC (ww_By_addNumber g o o_row (.ref o_row) o_lengthq o_overq o_row_n o_row_cq) H → va_D (va_A (ww_By_addNumber g o o_row (.ref o_row) o_length o_over o_row_n o_row_c) s.heap.size) (ww_By_addNumber g o o_row (.ref o_row) o_lengthq o_overq o_row_n o_row_cq) → (f_By_addNumber_7 n v1 v2 v3 v4 o_row_n o_lengthq o_overq o_row_cq) = some r → W p l e ({ frames := 1, cells := 0, slots := 0, locals := 21 } : Room) s m ([.ref o, .int a1, .int a2] : List Value).toArray below meth c H locs 0 0 (MQ below (gx_Qv D (ww_By_addNumber g o o_row (.ref o_row) o_length o_over o_row_n o_row_c) (ww_By_addNumber g o o_row (.ref o_row) r.1 r.2.1 o_row_n r.2.2) s.heap.size) ([.ref o, .int a1, .int a2] : List Value).toArray s 0 0 (va_A (ww_By_addNumber g o o_row (.ref o_row) o_length o_over o_row_n o_row_c) s.heap.size)) (F0 m 7 ls []) := by
    intro n
    induction n with
    | zero => intro v1 v2 v3 v4 o_lengthq o_overq o_row_cq ls H locs hl hS hP hD hf; cases hf
    | succ n ih =>
      intro v1 v2 v3 v4 o_lengthq o_overq o_row_cq ls H locs hl hS hP hD hf
      have hf : (if v4 ≤ 0 then (some (o_lengthq, o_overq, o_row_cq)) else (if v3 ≤ v1 then (f_By_addNumber_23 (fun v1 v2 v3 v4 o_row_n o_lengthq o_overq o_row_cq => f_By_addNumber_7 n v1 v2 v3 v4 o_row_n o_lengthq o_overq o_row_cq) v1 v2 v3 v4 o_row_n o_lengthq o_overq o_row_cq) else (if v2 < v4 then (f_By_addNumber_36 (fun v1 v2 v3 v4 o_row_n o_lengthq o_overq o_row_cq => f_By_addNumber_7 n v1 v2 v3 v4 o_row_n o_lengthq o_overq o_row_cq) v1 v2 v3 v4 o_row_n o_lengthq o_overq o_row_cq) else (f_By_addNumber_23 (fun v1 v2 v3 v4 o_row_n o_lengthq o_overq o_row_cq => f_By_addNumber_7 n v1 v2 v3 v4 o_row_n o_lengthq o_overq o_row_cq) v1 v2 v3 v4 o_row_n o_lengthq o_overq o_row_cq)))) = some r := hf
      refine lv_iload S.1 S.2.1 d_By_addNumber_7 (lv_at hl 4 rfl) ?_
      refine lv_if_le (tgt := 51) S.1 S.2.1 d_By_addNumber_9 (by decide) (fun h => ?_) (fun h => ?_)
      ·
        have hf := gx_ifp h hf
        obtain rfl := Option.some.inj hf
        exact gx_rv S hr hlk hS hP hD d_By_addNumber_51
      ·
        have hf := gx_ifn h hf
        refine lv_iload_n S.1 S.2.1 d_By_addNumber_12 rfl (lv_at hl 1 rfl) ?_
        refine lv_iload_n S.1 S.2.1 d_By_addNumber_13 rfl (lv_at hl 3 rfl) ?_
        refine lv_icmp_ge (tgt := 23) S.1 S.2.1 d_By_addNumber_14 (by decide) (fun h => ?_) (fun h => ?_)
        ·
          have hf := gx_ifp h hf
          exact c_23 (fun v1 v2 v3 v4 o_row_n o_lengthq o_overq o_row_cq => f_By_addNumber_7 n v1 v2 v3 v4 o_row_n o_lengthq o_overq o_row_cq) ih v1 v2 v3 v4 o_lengthq o_overq o_row_cq ls _ _ (lv_sub hl [0, 1, 2, 3, 4] rfl) hS hP hD hf
        ·
          have hf := gx_ifn h hf
          refine lv_iload S.1 S.2.1 d_By_addNumber_17 (lv_at hl 4 rfl) ?_
          refine lv_iload_n S.1 S.2.1 d_By_addNumber_19 rfl (lv_at hl 2 rfl) ?_
          refine lv_icmp_gt (tgt := 36) S.1 S.2.1 d_By_addNumber_20 (by decide) (fun h => ?_) (fun h => ?_)
          ·
            have hf := gx_ifp h hf
            exact c_36 (fun v1 v2 v3 v4 o_row_n o_lengthq o_overq o_row_cq => f_By_addNumber_7 n v1 v2 v3 v4 o_row_n o_lengthq o_overq o_row_cq) ih v1 v2 v3 v4 o_lengthq o_overq o_row_cq ls _ _ (lv_sub hl [0, 1, 2, 3, 4] rfl) hS hP hD hf
          ·
            have hf := gx_ifn h hf
            exact c_23 (fun v1 v2 v3 v4 o_row_n o_lengthq o_overq o_row_cq => f_By_addNumber_7 n v1 v2 v3 v4 o_row_n o_lengthq o_overq o_row_cq) ih v1 v2 v3 v4 o_lengthq o_overq o_row_cq ls _ _ (lv_sub hl [0, 1, 2, 3, 4] rfl) hS hP hD hf
  have hf : (f_By_addNumber_7 gx_fu a1 a2 (1000 : Int32) (4 : Int32) o_row_n o_length o_over o_row_c) = some r := hf
  refine lv_sipush (v := 1000) S.1 S.2.1 d_By_addNumber_0 (by decide) ?_
  refine lv_istore_n (lv' := [(3, .int (1000 : Int32)), (0, .ref o), (1, .int a1), (2, .int a2)]) S.1 S.2.1 d_By_addNumber_3 rfl hl (by decide) rfl (fun ls hl => ?_)
  refine lv_iconst (v := 4) S.1 S.2.1 d_By_addNumber_4 (by decide) ?_
  refine lv_istore (lv' := [(4, .int (4 : Int32)), (3, .int (1000 : Int32)), (0, .ref o), (1, .int a1), (2, .int a2)]) S.1 S.2.1 d_By_addNumber_5 hl (by decide) rfl (fun ls hl => ?_)
  exact c_7 gx_fu a1 a2 (1000 : Int32) (4 : Int32) o_length o_over o_row_c ls _ _ (lv_sub hl [2, 3, 4, 1, 0] rfl) hS hP hD hf
