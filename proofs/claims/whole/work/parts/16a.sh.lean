theorem d_Sh_isWithin_0 : decode b_Sh_isWithin 0 = .ok (.aload_n 0, 1) := by decide +kernel
theorem d_Sh_isWithin_1 : decode b_Sh_isWithin 1 = .ok (.aload_n 1, 1) := by decide +kernel
theorem d_Sh_isWithin_2 : decode b_Sh_isWithin 2 = .ok (.invokevirtual 142, 3) := by decide +kernel
theorem d_Sh_isWithin_5 : decode b_Sh_isWithin 5 = .ok (.istore_n 3, 1) := by decide +kernel
theorem d_Sh_isWithin_6 : decode b_Sh_isWithin 6 = .ok (.iload_n 3, 1) := by decide +kernel
theorem d_Sh_isWithin_7 : decode b_Sh_isWithin 7 = .ok (.ifCond .lt 11, 3) := by decide +kernel
theorem d_Sh_isWithin_10 : decode b_Sh_isWithin 10 = .ok (.iload_n 3, 1) := by decide +kernel
theorem d_Sh_isWithin_11 : decode b_Sh_isWithin 11 = .ok (.ifCond .ne 11, 3) := by decide +kernel
theorem d_Sh_isWithin_14 : decode b_Sh_isWithin 14 = .ok (.iload_n 2, 1) := by decide +kernel
theorem d_Sh_isWithin_15 : decode b_Sh_isWithin 15 = .ok (.ifCond .eq 7, 3) := by decide +kernel
theorem d_Sh_isWithin_18 : decode b_Sh_isWithin 18 = .ok (.iconst 1, 1) := by decide +kernel
theorem d_Sh_isWithin_19 : decode b_Sh_isWithin 19 = .ok (.goto 4, 3) := by decide +kernel
theorem d_Sh_isWithin_22 : decode b_Sh_isWithin 22 = .ok (.iconst 0, 1) := by decide +kernel
theorem d_Sh_isWithin_23 : decode b_Sh_isWithin 23 = .ok (.ireturn, 1) := by decide +kernel
theorem cal_Sh_isWithin : gx_cal y_Sh_isWithin b_Sh_isWithin 4 (some .boolean) 3 := ⟨wd_568, wd_9, by decide +kernel⟩
def ww_Sh_isWithin (g : Nat → ClassId) (a1 : Nat) (a2 : Nat) (a1_limbs : Nat) (a2_limbs : Nat) (x_a1_limbs : Value) (x_a1_size : Int32) (x_a2_limbs : Value) (x_a2_size : Int32) (y_a1_limbs : Nat → Int32) (y_a2_limbs : Nat → Int32) : va_W := [(a1, .inr (1, [x_a1_limbs, .int x_a1_size])), (a2, .inr (1, [x_a2_limbs, .int x_a2_size])), (a1_limbs, .inl (g 0, 96, .inl y_a1_limbs)), (a2_limbs, .inl (g 0, 96, .inl y_a2_limbs))]
def f_Sh_isWithin_18 (a1_size : Int32) (a2_size : Int32) (a1_limbs_c : Nat → Int32) (a2_limbs_c : Nat → Int32) : Option (Int32) := some (1 : Int32)
def f_Sh_isWithin_22 (a1_size : Int32) (a2_size : Int32) (a1_limbs_c : Nat → Int32) (a2_limbs_c : Nat → Int32) : Option (Int32) := some (0 : Int32)
def f_Sh_isWithin (a3 : Int32) (a1_size : Int32) (a2_size : Int32) (a1_limbs_c : Nat → Int32) (a2_limbs_c : Nat → Int32) : Option (Int32) := (f_Bg_against a1_size a2_size a1_limbs_c a2_limbs_c).bind fun u2 => if u2 < 0 then (f_Sh_isWithin_18 a1_size a2_size a1_limbs_c a2_limbs_c) else (if u2 = 0 then (if a3 = 0 then (f_Sh_isWithin_22 a1_size a2_size a1_limbs_c a2_limbs_c) else (f_Sh_isWithin_18 a1_size a2_size a1_limbs_c a2_limbs_c)) else (f_Sh_isWithin_22 a1_size a2_size a1_limbs_c a2_limbs_c))
set_option maxHeartbeats 4000000 in
set_option maxRecDepth 100000 in
theorem c_Sh_isWithin (l : Launch) (z : State) (D : va_G) (g : Nat → ClassId) (a1 : Nat) (a2 : Nat) (a1_limbs : Nat) (a2_limbs : Nat) (a1_size : Int32) (a2_size : Int32) (a1_limbs_c : Nat → Int32) (a2_limbs_c : Nat → Int32) (a3 : Int32) (r : Int32) (hf : f_Sh_isWithin a3 a1_size a2_size a1_limbs_c a2_limbs_c = some r) : gx_Mi l z D g y_Sh_isWithin b_Sh_isWithin 4 .boolean ({ frames := 1, cells := 0, slots := 0, locals := 22 } : Room) [.ref a1, .ref a2, .int a3] (ww_Sh_isWithin g a1 a2 a1_limbs a2_limbs (.ref a1_limbs) a1_size (.ref a2_limbs) a2_size a1_limbs_c a2_limbs_c) (ww_Sh_isWithin g a1 a2 a1_limbs a2_limbs (.ref a1_limbs) a1_size (.ref a2_limbs) a2_size a1_limbs_c a2_limbs_c) r := by
  refine gx_go (by decide +kernel) rfl ?_
  intro p e s m below meth c ls S hr hlk hnm E hP hD hl
  have hS : va_S (va_A (ww_Sh_isWithin g a1 a2 a1_limbs a2_limbs (.ref a1_limbs) a1_size (.ref a2_limbs) a2_size a1_limbs_c a2_limbs_c) s.heap.size) s.heap s.heap [] := va_S.rf
  have hl : lv_has ls 4 [(0, .ref a1), (1, .ref a2), (2, .int a3)] := hl
  have c_18 : ∀  (ls : Array Slot) (H : Heap) (locs : List Loc), lv_has ls 4 [] → va_S (va_A (ww_Sh_isWithin g a1 a2 a1_limbs a2_limbs (.ref a1_limbs) a1_size (.ref a2_limbs) a2_size a1_limbs_c a2_limbs_c) s.heap.size) s.heap H locs → va_P D vwC (ww_Sh_isWithin g a1 a2 a1_limbs a2_limbs (.ref a1_limbs) a1_size (.ref a2_limbs) a2_size a1_limbs_c a2_limbs_c) H → va_D (va_A (ww_Sh_isWithin g a1 a2 a1_limbs a2_limbs (.ref a1_limbs) a1_size (.ref a2_limbs) a2_size a1_limbs_c a2_limbs_c) s.heap.size) (ww_Sh_isWithin g a1 a2 a1_limbs a2_limbs (.ref a1_limbs) a1_size (.ref a2_limbs) a2_size a1_limbs_c a2_limbs_c) → (f_Sh_isWithin_18 a1_size a2_size a1_limbs_c a2_limbs_c) = some r → W p l e ({ frames := 1, cells := 0, slots := 0, locals := 22 } : Room) s m ([.ref a1, .ref a2, .int a3] : List Value).toArray below meth c H locs 0 0 (MQ below (gx_Qi D (ww_Sh_isWithin g a1 a2 a1_limbs a2_limbs (.ref a1_limbs) a1_size (.ref a2_limbs) a2_size a1_limbs_c a2_limbs_c) (ww_Sh_isWithin g a1 a2 a1_limbs a2_limbs (.ref a1_limbs) a1_size (.ref a2_limbs) a2_size a1_limbs_c a2_limbs_c) r s.heap.size) ([.ref a1, .ref a2, .int a3] : List Value).toArray s 0 0 (va_A (ww_Sh_isWithin g a1 a2 a1_limbs a2_limbs (.ref a1_limbs) a1_size (.ref a2_limbs) a2_size a1_limbs_c a2_limbs_c) s.heap.size)) (F0 m 18 ls []) := by
    intro  ls H locs hl hS hP hD hf
    have hf : (some (1 : Int32)) = some r := hf
    refine lv_iconst (v := 1) S.1 S.2.1 d_Sh_isWithin_18 (by decide) ?_
    refine lv_goto (tgt := 23) S.1 S.2.1 d_Sh_isWithin_19 (by decide) ?_
    obtain rfl := Option.some.inj hf
    exact gx_rz S hr gx_n1 hlk hS hP hD d_Sh_isWithin_23
  have c_22 : ∀  (ls : Array Slot) (H : Heap) (locs : List Loc), lv_has ls 4 [] → va_S (va_A (ww_Sh_isWithin g a1 a2 a1_limbs a2_limbs (.ref a1_limbs) a1_size (.ref a2_limbs) a2_size a1_limbs_c a2_limbs_c) s.heap.size) s.heap H locs → va_P D vwC (ww_Sh_isWithin g a1 a2 a1_limbs a2_limbs (.ref a1_limbs) a1_size (.ref a2_limbs) a2_size a1_limbs_c a2_limbs_c) H → va_D (va_A (ww_Sh_isWithin g a1 a2 a1_limbs a2_limbs (.ref a1_limbs) a1_size (.ref a2_limbs) a2_size a1_limbs_c a2_limbs_c) s.heap.size) (ww_Sh_isWithin g a1 a2 a1_limbs a2_limbs (.ref a1_limbs) a1_size (.ref a2_limbs) a2_size a1_limbs_c a2_limbs_c) → (f_Sh_isWithin_22 a1_size a2_size a1_limbs_c a2_limbs_c) = some r → W p l e ({ frames := 1, cells := 0, slots := 0, locals := 22 } : Room) s m ([.ref a1, .ref a2, .int a3] : List Value).toArray below meth c H locs 0 0 (MQ below (gx_Qi D (ww_Sh_isWithin g a1 a2 a1_limbs a2_limbs (.ref a1_limbs) a1_size (.ref a2_limbs) a2_size a1_limbs_c a2_limbs_c) (ww_Sh_isWithin g a1 a2 a1_limbs a2_limbs (.ref a1_limbs) a1_size (.ref a2_limbs) a2_size a1_limbs_c a2_limbs_c) r s.heap.size) ([.ref a1, .ref a2, .int a3] : List Value).toArray s 0 0 (va_A (ww_Sh_isWithin g a1 a2 a1_limbs a2_limbs (.ref a1_limbs) a1_size (.ref a2_limbs) a2_size a1_limbs_c a2_limbs_c) s.heap.size)) (F0 m 22 ls []) := by
    intro  ls H locs hl hS hP hD hf
    have hf : (some (0 : Int32)) = some r := hf
    refine lv_iconst (v := 0) S.1 S.2.1 d_Sh_isWithin_22 (by decide) ?_
    obtain rfl := Option.some.inj hf
    exact gx_rz S hr gx_n0 hlk hS hP hD d_Sh_isWithin_23
  have hf : ((f_Bg_against a1_size a2_size a1_limbs_c a2_limbs_c).bind fun u2 => if u2 < 0 then (f_Sh_isWithin_18 a1_size a2_size a1_limbs_c a2_limbs_c) else (if u2 = 0 then (if a3 = 0 then (f_Sh_isWithin_22 a1_size a2_size a1_limbs_c a2_limbs_c) else (f_Sh_isWithin_18 a1_size a2_size a1_limbs_c a2_limbs_c)) else (f_Sh_isWithin_22 a1_size a2_size a1_limbs_c a2_limbs_c))) = some r := hf
  refine lv_aload_n S.1 S.2.1 d_Sh_isWithin_0 rfl (lv_at hl 0 rfl) ?_
  refine lv_aload_n S.1 S.2.1 d_Sh_isWithin_1 rfl (lv_at hl 1 rfl) ?_
  obtain ⟨u2, hc2, hf⟩ := gx_bnd hf
  refine gx_Vi (ws2 := (ww_Sh_isWithin g a1 a2 a1_limbs a2_limbs (.ref a1_limbs) a1_size (.ref a2_limbs) a2_size a1_limbs_c a2_limbs_c)) S E hS hP hD (c_Bg_against l z D g a1 a2 a1_limbs a2_limbs a1_size a2_size a1_limbs_c a2_limbs_c u2 hc2) cal_Bg_against wd_535 wd_536 wd_534 rfl [0, 1, 2, 3] rfl rfl rfl (gx_rc E hP 0 rfl rfl) rfl hl.1 rfl d_Sh_isWithin_2 ⟨Nat.zero_le _, Nat.zero_le _⟩ rfl (fun H locs hS hP hD => ?_)
  refine lv_istore_n (lv' := [(3, .int u2), (0, .ref a1), (1, .ref a2), (2, .int a3)]) S.1 S.2.1 d_Sh_isWithin_5 rfl hl (by decide) rfl (fun ls hl => ?_)
  refine lv_iload_n S.1 S.2.1 d_Sh_isWithin_6 rfl (lv_at hl 0 rfl) ?_
  refine lv_if_lt (tgt := 18) S.1 S.2.1 d_Sh_isWithin_7 (by decide) (fun h => ?_) (fun h => ?_)
  ·
    have hf := gx_ifp h hf
    exact c_18  ls _ _ (lv_sub hl [] rfl) hS hP hD hf
  ·
    have hf := gx_ifn h hf
    refine lv_iload_n S.1 S.2.1 d_Sh_isWithin_10 rfl (lv_at hl 0 rfl) ?_
    refine lv_if_ne (tgt := 22) S.1 S.2.1 d_Sh_isWithin_11 (by decide) (fun h => ?_) (fun h => ?_)
    ·
      have hf := gx_ifn h hf
      exact c_22  ls _ _ (lv_sub hl [] rfl) hS hP hD hf
    ·
      have hf := gx_ifp h hf
      refine lv_iload_n S.1 S.2.1 d_Sh_isWithin_14 rfl (lv_at hl 3 rfl) ?_
      refine lv_if_eq (tgt := 22) S.1 S.2.1 d_Sh_isWithin_15 (by decide) (fun h => ?_) (fun h => ?_)
      ·
        have hf := gx_ifp h hf
        exact c_22  ls _ _ (lv_sub hl [] rfl) hS hP hD hf
      ·
        have hf := gx_ifn h hf
        exact c_18  ls _ _ (lv_sub hl [] rfl) hS hP hD hf
theorem d_Sh_isUpperBetter_0 : decode b_Sh_isUpperBetter 0 = .ok (.aload_n 0, 1) := by decide +kernel
theorem d_Sh_isUpperBetter_1 : decode b_Sh_isUpperBetter 1 = .ok (.getfield 19, 3) := by decide +kernel
theorem d_Sh_isUpperBetter_4 : decode b_Sh_isUpperBetter 4 = .ok (.aload_n 0, 1) := by decide +kernel
theorem d_Sh_isUpperBetter_5 : decode b_Sh_isUpperBetter 5 = .ok (.getfield 32, 3) := by decide +kernel
theorem d_Sh_isUpperBetter_8 : decode b_Sh_isUpperBetter 8 = .ok (.invokevirtual 142, 3) := by decide +kernel
theorem d_Sh_isUpperBetter_11 : decode b_Sh_isUpperBetter 11 = .ok (.istore_n 3, 1) := by decide +kernel
theorem d_Sh_isUpperBetter_12 : decode b_Sh_isUpperBetter 12 = .ok (.iload_n 3, 1) := by decide +kernel
theorem d_Sh_isUpperBetter_13 : decode b_Sh_isUpperBetter 13 = .ok (.ifCond .gt 15, 3) := by decide +kernel
theorem d_Sh_isUpperBetter_16 : decode b_Sh_isUpperBetter 16 = .ok (.iload_n 3, 1) := by decide +kernel
theorem d_Sh_isUpperBetter_17 : decode b_Sh_isUpperBetter 17 = .ok (.ifCond .ne 15, 3) := by decide +kernel
theorem d_Sh_isUpperBetter_20 : decode b_Sh_isUpperBetter 20 = .ok (.lload_n 1, 1) := by decide +kernel
theorem d_Sh_isUpperBetter_21 : decode b_Sh_isUpperBetter 21 = .ok (.lconst 1, 1) := by decide +kernel
theorem d_Sh_isUpperBetter_22 : decode b_Sh_isUpperBetter 22 = .ok (.land, 1) := by decide +kernel
theorem d_Sh_isUpperBetter_23 : decode b_Sh_isUpperBetter 23 = .ok (.lconst 0, 1) := by decide +kernel
theorem d_Sh_isUpperBetter_24 : decode b_Sh_isUpperBetter 24 = .ok (.lcmp, 1) := by decide +kernel
theorem d_Sh_isUpperBetter_25 : decode b_Sh_isUpperBetter 25 = .ok (.ifCond .eq 7, 3) := by decide +kernel
theorem d_Sh_isUpperBetter_28 : decode b_Sh_isUpperBetter 28 = .ok (.iconst 1, 1) := by decide +kernel
theorem d_Sh_isUpperBetter_29 : decode b_Sh_isUpperBetter 29 = .ok (.goto 4, 3) := by decide +kernel
theorem d_Sh_isUpperBetter_32 : decode b_Sh_isUpperBetter 32 = .ok (.iconst 0, 1) := by decide +kernel
theorem d_Sh_isUpperBetter_33 : decode b_Sh_isUpperBetter 33 = .ok (.ireturn, 1) := by decide +kernel
theorem cal_Sh_isUpperBetter : gx_cal y_Sh_isUpperBetter b_Sh_isUpperBetter 4 (some .boolean) 1 := ⟨wd_572, wd_9, by decide +kernel⟩
def ww_Sh_isUpperBetter (g : Nat → ClassId) (o : Nat) (o_value : Nat) (o_rest : Nat) (o_value_limbs : Nat) (o_rest_limbs : Nat) (x_o_decimal : Value) (x_o_value : Value) (x_o_unit : Value) (x_o_up : Value) (x_o_down : Value) (x_o_rest : Value) (x_o_point : Int32) (x_o_value_limbs : Value) (x_o_value_size : Int32) (x_o_rest_limbs : Value) (x_o_rest_size : Int32) (y_o_value_limbs : Nat → Int32) (y_o_rest_limbs : Nat → Int32) : va_W := [(o, .inr (8, [x_o_decimal, x_o_value, x_o_unit, x_o_up, x_o_down, x_o_rest, .int x_o_point])), (o_value, .inr (1, [x_o_value_limbs, .int x_o_value_size])), (o_rest, .inr (1, [x_o_rest_limbs, .int x_o_rest_size])), (o_value_limbs, .inl (g 0, 96, .inl y_o_value_limbs)), (o_rest_limbs, .inl (g 0, 96, .inl y_o_rest_limbs))]
def f_Sh_isUpperBetter_28 (o_value_size : Int32) (o_rest_size : Int32) (o_value_limbs_c : Nat → Int32) (o_rest_limbs_c : Nat → Int32) : Option (Int32) := some (1 : Int32)
def f_Sh_isUpperBetter_32 (o_value_size : Int32) (o_rest_size : Int32) (o_value_limbs_c : Nat → Int32) (o_rest_limbs_c : Nat → Int32) : Option (Int32) := some (0 : Int32)
def f_Sh_isUpperBetter (a1 : Int64) (o_value_size : Int32) (o_rest_size : Int32) (o_value_limbs_c : Nat → Int32) (o_rest_limbs_c : Nat → Int32) : Option (Int32) := (f_Bg_against o_value_size o_rest_size o_value_limbs_c o_rest_limbs_c).bind fun u8 => if 0 < u8 then (f_Sh_isUpperBetter_28 o_value_size o_rest_size o_value_limbs_c o_rest_limbs_c) else (if u8 = 0 then (if (a1 &&& (1 : Int64)) = (0 : Int64) then (f_Sh_isUpperBetter_32 o_value_size o_rest_size o_value_limbs_c o_rest_limbs_c) else (f_Sh_isUpperBetter_28 o_value_size o_rest_size o_value_limbs_c o_rest_limbs_c)) else (f_Sh_isUpperBetter_32 o_value_size o_rest_size o_value_limbs_c o_rest_limbs_c))
set_option maxHeartbeats 4000000 in
set_option maxRecDepth 100000 in
theorem c_Sh_isUpperBetter (l : Launch) (z : State) (D : va_G) (g : Nat → ClassId) (o : Nat) (o_value : Nat) (o_rest : Nat) (o_value_limbs : Nat) (o_rest_limbs : Nat) (o_decimal_v : Value) (o_unit_v : Value) (o_up_v : Value) (o_down_v : Value) (o_point : Int32) (o_value_size : Int32) (o_rest_size : Int32) (o_value_limbs_c : Nat → Int32) (o_rest_limbs_c : Nat → Int32) (a1 : Int64) (r : Int32) (hf : f_Sh_isUpperBetter a1 o_value_size o_rest_size o_value_limbs_c o_rest_limbs_c = some r) : gx_Mi l z D g y_Sh_isUpperBetter b_Sh_isUpperBetter 4 .boolean ({ frames := 1, cells := 0, slots := 0, locals := 22 } : Room) [.ref o, .long a1] (ww_Sh_isUpperBetter g o o_value o_rest o_value_limbs o_rest_limbs o_decimal_v (.ref o_value) o_unit_v o_up_v o_down_v (.ref o_rest) o_point (.ref o_value_limbs) o_value_size (.ref o_rest_limbs) o_rest_size o_value_limbs_c o_rest_limbs_c) (ww_Sh_isUpperBetter g o o_value o_rest o_value_limbs o_rest_limbs o_decimal_v (.ref o_value) o_unit_v o_up_v o_down_v (.ref o_rest) o_point (.ref o_value_limbs) o_value_size (.ref o_rest_limbs) o_rest_size o_value_limbs_c o_rest_limbs_c) r := by
  refine gx_go (by decide +kernel) rfl ?_
  intro p e s m below meth c ls S hr hlk hnm E hP hD hl
  have hS : va_S (va_A (ww_Sh_isUpperBetter g o o_value o_rest o_value_limbs o_rest_limbs o_decimal_v (.ref o_value) o_unit_v o_up_v o_down_v (.ref o_rest) o_point (.ref o_value_limbs) o_value_size (.ref o_rest_limbs) o_rest_size o_value_limbs_c o_rest_limbs_c) s.heap.size) s.heap s.heap [] := va_S.rf
  have hl : lv_has ls 4 [(0, .ref o), (1, .long a1)] := hl
  have c_28 : ∀  (ls : Array Slot) (H : Heap) (locs : List Loc), lv_has ls 4 [] → va_S (va_A (ww_Sh_isUpperBetter g o o_value o_rest o_value_limbs o_rest_limbs o_decimal_v (.ref o_value) o_unit_v o_up_v o_down_v (.ref o_rest) o_point (.ref o_value_limbs) o_value_size (.ref o_rest_limbs) o_rest_size o_value_limbs_c o_rest_limbs_c) s.heap.size) s.heap H locs → va_P D vwC (ww_Sh_isUpperBetter g o o_value o_rest o_value_limbs o_rest_limbs o_decimal_v (.ref o_value) o_unit_v o_up_v o_down_v (.ref o_rest) o_point (.ref o_value_limbs) o_value_size (.ref o_rest_limbs) o_rest_size o_value_limbs_c o_rest_limbs_c) H → va_D (va_A (ww_Sh_isUpperBetter g o o_value o_rest o_value_limbs o_rest_limbs o_decimal_v (.ref o_value) o_unit_v o_up_v o_down_v (.ref o_rest) o_point (.ref o_value_limbs) o_value_size (.ref o_rest_limbs) o_rest_size o_value_limbs_c o_rest_limbs_c) s.heap.size) (ww_Sh_isUpperBetter g o o_value o_rest o_value_limbs o_rest_limbs o_decimal_v (.ref o_value) o_unit_v o_up_v o_down_v (.ref o_rest) o_point (.ref o_value_limbs) o_value_size (.ref o_rest_limbs) o_rest_size o_value_limbs_c o_rest_limbs_c) → (f_Sh_isUpperBetter_28 o_value_size o_rest_size o_value_limbs_c o_rest_limbs_c) = some r → W p l e ({ frames := 1, cells := 0, slots := 0, locals := 22 } : Room) s m ([.ref o, .long a1] : List Value).toArray below meth c H locs 0 0 (MQ below (gx_Qi D (ww_Sh_isUpperBetter g o o_value o_rest o_value_limbs o_rest_limbs o_decimal_v (.ref o_value) o_unit_v o_up_v o_down_v (.ref o_rest) o_point (.ref o_value_limbs) o_value_size (.ref o_rest_limbs) o_rest_size o_value_limbs_c o_rest_limbs_c) (ww_Sh_isUpperBetter g o o_value o_rest o_value_limbs o_rest_limbs o_decimal_v (.ref o_value) o_unit_v o_up_v o_down_v (.ref o_rest) o_point (.ref o_value_limbs) o_value_size (.ref o_rest_limbs) o_rest_size o_value_limbs_c o_rest_limbs_c) r s.heap.size) ([.ref o, .long a1] : List Value).toArray s 0 0 (va_A (ww_Sh_isUpperBetter g o o_value o_rest o_value_limbs o_rest_limbs o_decimal_v (.ref o_value) o_unit_v o_up_v o_down_v (.ref o_rest) o_point (.ref o_value_limbs) o_value_size (.ref o_rest_limbs) o_rest_size o_value_limbs_c o_rest_limbs_c) s.heap.size)) (F0 m 28 ls []) := by
    intro  ls H locs hl hS hP hD hf
    have hf : (some (1 : Int32)) = some r := hf
    refine lv_iconst (v := 1) S.1 S.2.1 d_Sh_isUpperBetter_28 (by decide) ?_
    refine lv_goto (tgt := 33) S.1 S.2.1 d_Sh_isUpperBetter_29 (by decide) ?_
    obtain rfl := Option.some.inj hf
    exact gx_rz S hr gx_n1 hlk hS hP hD d_Sh_isUpperBetter_33
  have c_32 : ∀  (ls : Array Slot) (H : Heap) (locs : List Loc), lv_has ls 4 [] → va_S (va_A (ww_Sh_isUpperBetter g o o_value o_rest o_value_limbs o_rest_limbs o_decimal_v (.ref o_value) o_unit_v o_up_v o_down_v (.ref o_rest) o_point (.ref o_value_limbs) o_value_size (.ref o_rest_limbs) o_rest_size o_value_limbs_c o_rest_limbs_c) s.heap.size) s.heap H locs → va_P D vwC (ww_Sh_isUpperBetter g o o_value o_rest o_value_limbs o_rest_limbs o_decimal_v (.ref o_value) o_unit_v o_up_v o_down_v (.ref o_rest) o_point (.ref o_value_limbs) o_value_size (.ref o_rest_limbs) o_rest_size o_value_limbs_c o_rest_limbs_c) H → va_D (va_A (ww_Sh_isUpperBetter g o o_value o_rest o_value_limbs o_rest_limbs o_decimal_v (.ref o_value) o_unit_v o_up_v o_down_v (.ref o_rest) o_point (.ref o_value_limbs) o_value_size (.ref o_rest_limbs) o_rest_size o_value_limbs_c o_rest_limbs_c) s.heap.size) (ww_Sh_isUpperBetter g o o_value o_rest o_value_limbs o_rest_limbs o_decimal_v (.ref o_value) o_unit_v o_up_v o_down_v (.ref o_rest) o_point (.ref o_value_limbs) o_value_size (.ref o_rest_limbs) o_rest_size o_value_limbs_c o_rest_limbs_c) → (f_Sh_isUpperBetter_32 o_value_size o_rest_size o_value_limbs_c o_rest_limbs_c) = some r → W p l e ({ frames := 1, cells := 0, slots := 0, locals := 22 } : Room) s m ([.ref o, .long a1] : List Value).toArray below meth c H locs 0 0 (MQ below (gx_Qi D (ww_Sh_isUpperBetter g o o_value o_rest o_value_limbs o_rest_limbs o_decimal_v (.ref o_value) o_unit_v o_up_v o_down_v (.ref o_rest) o_point (.ref o_value_limbs) o_value_size (.ref o_rest_limbs) o_rest_size o_value_limbs_c o_rest_limbs_c) (ww_Sh_isUpperBetter g o o_value o_rest o_value_limbs o_rest_limbs o_decimal_v (.ref o_value) o_unit_v o_up_v o_down_v (.ref o_rest) o_point (.ref o_value_limbs) o_value_size (.ref o_rest_limbs) o_rest_size o_value_limbs_c o_rest_limbs_c) r s.heap.size) ([.ref o, .long a1] : List Value).toArray s 0 0 (va_A (ww_Sh_isUpperBetter g o o_value o_rest o_value_limbs o_rest_limbs o_decimal_v (.ref o_value) o_unit_v o_up_v o_down_v (.ref o_rest) o_point (.ref o_value_limbs) o_value_size (.ref o_rest_limbs) o_rest_size o_value_limbs_c o_rest_limbs_c) s.heap.size)) (F0 m 32 ls []) := by
    intro  ls H locs hl hS hP hD hf
    have hf : (some (0 : Int32)) = some r := hf
    refine lv_iconst (v := 0) S.1 S.2.1 d_Sh_isUpperBetter_32 (by decide) ?_
    obtain rfl := Option.some.inj hf
    exact gx_rz S hr gx_n0 hlk hS hP hD d_Sh_isUpperBetter_33
  have hf : ((f_Bg_against o_value_size o_rest_size o_value_limbs_c o_rest_limbs_c).bind fun u8 => if 0 < u8 then (f_Sh_isUpperBetter_28 o_value_size o_rest_size o_value_limbs_c o_rest_limbs_c) else (if u8 = 0 then (if (a1 &&& (1 : Int64)) = (0 : Int64) then (f_Sh_isUpperBetter_32 o_value_size o_rest_size o_value_limbs_c o_rest_limbs_c) else (f_Sh_isUpperBetter_28 o_value_size o_rest_size o_value_limbs_c o_rest_limbs_c)) else (f_Sh_isUpperBetter_32 o_value_size o_rest_size o_value_limbs_c o_rest_limbs_c))) = some r := hf
  refine lv_aload_n S.1 S.2.1 d_Sh_isUpperBetter_0 rfl (lv_at hl 0 rfl) ?_
  refine gx_gf (v := .ref o_value) S E hP 0 rfl rfl i_Sh 1 rfl wd_230 ⟨rfl, rfl, rfl⟩ rfl d_Sh_isUpperBetter_1 ?_
  refine lv_aload_n S.1 S.2.1 d_Sh_isUpperBetter_4 rfl (lv_at hl 0 rfl) ?_
  refine gx_gf (v := .ref o_rest) S E hP 0 rfl rfl i_Sh 5 rfl wd_234 ⟨rfl, rfl, rfl⟩ rfl d_Sh_isUpperBetter_5 ?_
  obtain ⟨u8, hc8, hf⟩ := gx_bnd hf
  refine gx_Vi (ws2 := (ww_Sh_isUpperBetter g o o_value o_rest o_value_limbs o_rest_limbs o_decimal_v (.ref o_value) o_unit_v o_up_v o_down_v (.ref o_rest) o_point (.ref o_value_limbs) o_value_size (.ref o_rest_limbs) o_rest_size o_value_limbs_c o_rest_limbs_c)) S E hS hP hD (c_Bg_against l z D g o_value o_rest o_value_limbs o_rest_limbs o_value_size o_rest_size o_value_limbs_c o_rest_limbs_c u8 hc8) cal_Bg_against wd_535 wd_536 wd_534 rfl [1, 2, 3, 4] rfl rfl rfl (gx_rc E hP 1 rfl rfl) rfl hl.1 rfl d_Sh_isUpperBetter_8 ⟨Nat.zero_le _, Nat.zero_le _⟩ rfl (fun H locs hS hP hD => ?_)
  refine lv_istore_n (lv' := [(3, .int u8), (0, .ref o), (1, .long a1)]) S.1 S.2.1 d_Sh_isUpperBetter_11 rfl hl (by decide) rfl (fun ls hl => ?_)
  refine lv_iload_n S.1 S.2.1 d_Sh_isUpperBetter_12 rfl (lv_at hl 0 rfl) ?_
  refine lv_if_gt (tgt := 28) S.1 S.2.1 d_Sh_isUpperBetter_13 (by decide) (fun h => ?_) (fun h => ?_)
  ·
    have hf := gx_ifp h hf
    exact c_28  ls _ _ (lv_sub hl [] rfl) hS hP hD hf
  ·
    have hf := gx_ifn h hf
    refine lv_iload_n S.1 S.2.1 d_Sh_isUpperBetter_16 rfl (lv_at hl 0 rfl) ?_
    refine lv_if_ne (tgt := 32) S.1 S.2.1 d_Sh_isUpperBetter_17 (by decide) (fun h => ?_) (fun h => ?_)
    ·
      have hf := gx_ifn h hf
      exact c_32  ls _ _ (lv_sub hl [] rfl) hS hP hD hf
    ·
      have hf := gx_ifp h hf
      refine lv_lload_n S.1 S.2.1 d_Sh_isUpperBetter_20 rfl (lv_at hl 2 rfl) ?_
      refine lv_lconst (v := 1) S.1 S.2.1 d_Sh_isUpperBetter_21 (by decide) ?_
      refine lv_land S.1 S.2.1 d_Sh_isUpperBetter_22 ?_
      refine lv_lconst (v := 0) S.1 S.2.1 d_Sh_isUpperBetter_23 (by decide) ?_
      refine W.lcmp S.1 S.2.1 d_Sh_isUpperBetter_24 ?_
      refine lv_if_eq (tgt := 32) S.1 S.2.1 d_Sh_isUpperBetter_25 (by decide) (fun h => ?_) (fun h => ?_)
      ·
        have h : (a1 &&& (1 : Int64)) = (0 : Int64) := (lg_cmp_eq _ _).mp h
        have hf := gx_ifp h hf
        exact c_32  ls _ _ (lv_sub hl [] rfl) hS hP hD hf
      ·
        have h : ¬ (a1 &&& (1 : Int64)) = (0 : Int64) := fun q => h ((lg_cmp_eq _ _).mpr q)
        have hf := gx_ifn h hf
        exact c_28  ls _ _ (lv_sub hl [] rfl) hS hP hD hf
theorem d_Sh_nextDigit_0 : decode b_Sh_nextDigit 0 = .ok (.aload_n 0, 1) := by decide +kernel
theorem d_Sh_nextDigit_1 : decode b_Sh_nextDigit 1 = .ok (.getfield 19, 3) := by decide +kernel
theorem d_Sh_nextDigit_4 : decode b_Sh_nextDigit 4 = .ok (.bipush 10, 2) := by decide +kernel
theorem d_Sh_nextDigit_6 : decode b_Sh_nextDigit 6 = .ok (.iconst 0, 1) := by decide +kernel
theorem d_Sh_nextDigit_7 : decode b_Sh_nextDigit 7 = .ok (.invokevirtual 164, 3) := by decide +kernel
theorem d_Sh_nextDigit_10 : decode b_Sh_nextDigit 10 = .ok (.aload_n 0, 1) := by decide +kernel
theorem d_Sh_nextDigit_11 : decode b_Sh_nextDigit 11 = .ok (.getfield 26, 3) := by decide +kernel
theorem d_Sh_nextDigit_14 : decode b_Sh_nextDigit 14 = .ok (.bipush 10, 2) := by decide +kernel
theorem d_Sh_nextDigit_16 : decode b_Sh_nextDigit 16 = .ok (.iconst 0, 1) := by decide +kernel
theorem d_Sh_nextDigit_17 : decode b_Sh_nextDigit 17 = .ok (.invokevirtual 164, 3) := by decide +kernel
theorem d_Sh_nextDigit_20 : decode b_Sh_nextDigit 20 = .ok (.aload_n 0, 1) := by decide +kernel
theorem d_Sh_nextDigit_21 : decode b_Sh_nextDigit 21 = .ok (.getfield 29, 3) := by decide +kernel
theorem d_Sh_nextDigit_24 : decode b_Sh_nextDigit 24 = .ok (.bipush 10, 2) := by decide +kernel
theorem d_Sh_nextDigit_26 : decode b_Sh_nextDigit 26 = .ok (.iconst 0, 1) := by decide +kernel
theorem d_Sh_nextDigit_27 : decode b_Sh_nextDigit 27 = .ok (.invokevirtual 164, 3) := by decide +kernel
theorem d_Sh_nextDigit_30 : decode b_Sh_nextDigit 30 = .ok (.aload_n 0, 1) := by decide +kernel
theorem d_Sh_nextDigit_31 : decode b_Sh_nextDigit 31 = .ok (.getfield 23, 3) := by decide +kernel
theorem d_Sh_nextDigit_34 : decode b_Sh_nextDigit 34 = .ok (.getfield 173, 3) := by decide +kernel
theorem d_Sh_nextDigit_37 : decode b_Sh_nextDigit 37 = .ok (.iconst 1, 1) := by decide +kernel
theorem d_Sh_nextDigit_38 : decode b_Sh_nextDigit 38 = .ok (.isub, 1) := by decide +kernel
theorem d_Sh_nextDigit_39 : decode b_Sh_nextDigit 39 = .ok (.istore_n 1, 1) := by decide +kernel
theorem d_Sh_nextDigit_40 : decode b_Sh_nextDigit 40 = .ok (.aload_n 0, 1) := by decide +kernel
theorem d_Sh_nextDigit_41 : decode b_Sh_nextDigit 41 = .ok (.getfield 19, 3) := by decide +kernel
theorem d_Sh_nextDigit_44 : decode b_Sh_nextDigit 44 = .ok (.iload_n 1, 1) := by decide +kernel
theorem d_Sh_nextDigit_45 : decode b_Sh_nextDigit 45 = .ok (.invokevirtual 174, 3) := by decide +kernel
theorem d_Sh_nextDigit_48 : decode b_Sh_nextDigit 48 = .ok (.aload_n 0, 1) := by decide +kernel
theorem d_Sh_nextDigit_49 : decode b_Sh_nextDigit 49 = .ok (.getfield 23, 3) := by decide +kernel
theorem d_Sh_nextDigit_52 : decode b_Sh_nextDigit 52 = .ok (.iload_n 1, 1) := by decide +kernel
theorem d_Sh_nextDigit_53 : decode b_Sh_nextDigit 53 = .ok (.invokevirtual 174, 3) := by decide +kernel
theorem d_Sh_nextDigit_56 : decode b_Sh_nextDigit 56 = .ok (.lconst 1, 1) := by decide +kernel
theorem d_Sh_nextDigit_57 : decode b_Sh_nextDigit 57 = .ok (.ladd, 1) := by decide +kernel
theorem d_Sh_nextDigit_58 : decode b_Sh_nextDigit 58 = .ok (.ldiv, 1) := by decide +kernel
theorem d_Sh_nextDigit_59 : decode b_Sh_nextDigit 59 = .ok (.l2i, 1) := by decide +kernel
theorem d_Sh_nextDigit_60 : decode b_Sh_nextDigit 60 = .ok (.istore_n 2, 1) := by decide +kernel
theorem d_Sh_nextDigit_61 : decode b_Sh_nextDigit 61 = .ok (.aload_n 0, 1) := by decide +kernel
theorem d_Sh_nextDigit_62 : decode b_Sh_nextDigit 62 = .ok (.getfield 19, 3) := by decide +kernel
theorem d_Sh_nextDigit_65 : decode b_Sh_nextDigit 65 = .ok (.aload_n 0, 1) := by decide +kernel
theorem d_Sh_nextDigit_66 : decode b_Sh_nextDigit 66 = .ok (.getfield 23, 3) := by decide +kernel
theorem d_Sh_nextDigit_69 : decode b_Sh_nextDigit 69 = .ok (.iload_n 2, 1) := by decide +kernel
theorem d_Sh_nextDigit_70 : decode b_Sh_nextDigit 70 = .ok (.invokevirtual 123, 3) := by decide +kernel
theorem d_Sh_nextDigit_73 : decode b_Sh_nextDigit 73 = .ok (.aload_n 0, 1) := by decide +kernel
theorem d_Sh_nextDigit_74 : decode b_Sh_nextDigit 74 = .ok (.getfield 19, 3) := by decide +kernel
theorem d_Sh_nextDigit_77 : decode b_Sh_nextDigit 77 = .ok (.aload_n 0, 1) := by decide +kernel
theorem d_Sh_nextDigit_78 : decode b_Sh_nextDigit 78 = .ok (.getfield 23, 3) := by decide +kernel
theorem d_Sh_nextDigit_81 : decode b_Sh_nextDigit 81 = .ok (.invokevirtual 142, 3) := by decide +kernel
theorem d_Sh_nextDigit_84 : decode b_Sh_nextDigit 84 = .ok (.ifCond .lt 18, 3) := by decide +kernel
theorem d_Sh_nextDigit_87 : decode b_Sh_nextDigit 87 = .ok (.aload_n 0, 1) := by decide +kernel
theorem d_Sh_nextDigit_88 : decode b_Sh_nextDigit 88 = .ok (.getfield 19, 3) := by decide +kernel
theorem d_Sh_nextDigit_91 : decode b_Sh_nextDigit 91 = .ok (.aload_n 0, 1) := by decide +kernel
theorem d_Sh_nextDigit_92 : decode b_Sh_nextDigit 92 = .ok (.getfield 23, 3) := by decide +kernel
theorem d_Sh_nextDigit_95 : decode b_Sh_nextDigit 95 = .ok (.iconst 1, 1) := by decide +kernel
theorem d_Sh_nextDigit_96 : decode b_Sh_nextDigit 96 = .ok (.invokevirtual 123, 3) := by decide +kernel
theorem d_Sh_nextDigit_99 : decode b_Sh_nextDigit 99 = .ok (.iinc 2 1, 3) := by decide +kernel
theorem d_Sh_nextDigit_102 : decode b_Sh_nextDigit 102 = .ok (.iload_n 2, 1) := by decide +kernel
theorem d_Sh_nextDigit_103 : decode b_Sh_nextDigit 103 = .ok (.ireturn, 1) := by decide +kernel
theorem cal_Sh_nextDigit : gx_cal y_Sh_nextDigit b_Sh_nextDigit 3 (some .int) 0 := ⟨wd_552, wd_9, by decide +kernel⟩
def ww_Sh_nextDigit (g : Nat → ClassId) (o : Nat) (o_value : Nat) (o_value_limbs : Nat) (o_up : Nat) (o_up_limbs : Nat) (o_down : Nat) (o_down_limbs : Nat) (o_unit : Nat) (o_unit_limbs : Nat) (x_o_decimal : Value) (x_o_value : Value) (x_o_unit : Value) (x_o_up : Value) (x_o_down : Value) (x_o_rest : Value) (x_o_point : Int32) (x_o_value_limbs : Value) (x_o_value_size : Int32) (y_o_value_limbs : Nat → Int32) (x_o_up_limbs : Value) (x_o_up_size : Int32) (y_o_up_limbs : Nat → Int32) (x_o_down_limbs : Value) (x_o_down_size : Int32) (y_o_down_limbs : Nat → Int32) (x_o_unit_limbs : Value) (x_o_unit_size : Int32) (y_o_unit_limbs : Nat → Int32) : va_W := [(o, .inr (8, [x_o_decimal, x_o_value, x_o_unit, x_o_up, x_o_down, x_o_rest, .int x_o_point])), (o_value, .inr (1, [x_o_value_limbs, .int x_o_value_size])), (o_value_limbs, .inl (g 0, 96, .inl y_o_value_limbs)), (o_up, .inr (1, [x_o_up_limbs, .int x_o_up_size])), (o_up_limbs, .inl (g 0, 96, .inl y_o_up_limbs)), (o_down, .inr (1, [x_o_down_limbs, .int x_o_down_size])), (o_down_limbs, .inl (g 0, 96, .inl y_o_down_limbs)), (o_unit, .inr (1, [x_o_unit_limbs, .int x_o_unit_size])), (o_unit_limbs, .inl (g 0, 96, .inl y_o_unit_limbs))]
def f_Sh_nextDigit (o_value_size : Int32) (o_value_limbs_c : Nat → Int32) (o_up_size : Int32) (o_up_limbs_c : Nat → Int32) (o_down_size : Int32) (o_down_limbs_c : Nat → Int32) (o_unit_size : Int32) (o_unit_limbs_c : Nat → Int32) : Option (Int32 × Int32 × (Nat → Int32) × Int32 × (Nat → Int32) × Int32 × (Nat → Int32)) := (f_Bg_timesPlus (10 : Int32) (0 : Int32) o_value_size o_value_limbs_c).bind fun u7 => (f_Bg_timesPlus (10 : Int32) (0 : Int32) o_up_size o_up_limbs_c).bind fun u17 => (f_Bg_timesPlus (10 : Int32) (0 : Int32) o_down_size o_down_limbs_c).bind fun u27 => (f_Bg_limb (o_unit_size - (1 : Int32)) u7.1 u7.2).bind fun u45 => (f_Bg_limb (o_unit_size - (1 : Int32)) o_unit_size o_unit_limbs_c).bind fun u53 => if ¬ (u53 + (1 : Int64)) = 0 then (f_Bg_minusTimes ((u45 / (u53 + (1 : Int64))).toInt32) u7.1 u7.2 o_unit_size o_unit_limbs_c).bind fun u70 => (f_Bg_against u70.1 o_unit_size u70.2 o_unit_limbs_c).bind fun u81 => if u81 < 0 then (some ((u45 / (u53 + (1 : Int64))).toInt32, u70.1, u70.2, u17.1, u17.2, u27.1, u27.2)) else ((f_Bg_minusTimes (1 : Int32) u70.1 u70.2 o_unit_size o_unit_limbs_c).bind fun u96 => some (((u45 / (u53 + (1 : Int64))).toInt32) + 1, u96.1, u96.2, u17.1, u17.2, u27.1, u27.2)) else none
set_option maxHeartbeats 4000000 in
set_option maxRecDepth 100000 in
theorem c_Sh_nextDigit (l : Launch) (z : State) (D : va_G) (g : Nat → ClassId) (o : Nat) (o_value : Nat) (o_value_limbs : Nat) (o_up : Nat) (o_up_limbs : Nat) (o_down : Nat) (o_down_limbs : Nat) (o_unit : Nat) (o_unit_limbs : Nat) (o_decimal_v : Value) (o_rest_v : Value) (o_point : Int32) (o_value_size : Int32) (o_value_limbs_c : Nat → Int32) (o_up_size : Int32) (o_up_limbs_c : Nat → Int32) (o_down_size : Int32) (o_down_limbs_c : Nat → Int32) (o_unit_size : Int32) (o_unit_limbs_c : Nat → Int32) (r : Int32 × Int32 × (Nat → Int32) × Int32 × (Nat → Int32) × Int32 × (Nat → Int32)) (hf : f_Sh_nextDigit o_value_size o_value_limbs_c o_up_size o_up_limbs_c o_down_size o_down_limbs_c o_unit_size o_unit_limbs_c = some r) : gx_Mi l z D g y_Sh_nextDigit b_Sh_nextDigit 3 .int ({ frames := 2, cells := 0, slots := 0, locals := 50 } : Room) [.ref o] (ww_Sh_nextDigit g o o_value o_value_limbs o_up o_up_limbs o_down o_down_limbs o_unit o_unit_limbs o_decimal_v (.ref o_value) (.ref o_unit) (.ref o_up) (.ref o_down) o_rest_v o_point (.ref o_value_limbs) o_value_size o_value_limbs_c (.ref o_up_limbs) o_up_size o_up_limbs_c (.ref o_down_limbs) o_down_size o_down_limbs_c (.ref o_unit_limbs) o_unit_size o_unit_limbs_c) (ww_Sh_nextDigit g o o_value o_value_limbs o_up o_up_limbs o_down o_down_limbs o_unit o_unit_limbs o_decimal_v (.ref o_value) (.ref o_unit) (.ref o_up) (.ref o_down) o_rest_v o_point (.ref o_value_limbs) r.2.1 r.2.2.1 (.ref o_up_limbs) r.2.2.2.1 r.2.2.2.2.1 (.ref o_down_limbs) r.2.2.2.2.2.1 r.2.2.2.2.2.2 (.ref o_unit_limbs) o_unit_size o_unit_limbs_c) r.1 := by
  refine gx_go (by decide +kernel) rfl ?_
  intro p e s m below meth c ls S hr hlk hnm E hP hD hl
  have hS : va_S (va_A (ww_Sh_nextDigit g o o_value o_value_limbs o_up o_up_limbs o_down o_down_limbs o_unit o_unit_limbs o_decimal_v (.ref o_value) (.ref o_unit) (.ref o_up) (.ref o_down) o_rest_v o_point (.ref o_value_limbs) o_value_size o_value_limbs_c (.ref o_up_limbs) o_up_size o_up_limbs_c (.ref o_down_limbs) o_down_size o_down_limbs_c (.ref o_unit_limbs) o_unit_size o_unit_limbs_c) s.heap.size) s.heap s.heap [] := va_S.rf
  have hl : lv_has ls 3 [(0, .ref o)] := hl
  have hf : ((f_Bg_timesPlus (10 : Int32) (0 : Int32) o_value_size o_value_limbs_c).bind fun u7 => (f_Bg_timesPlus (10 : Int32) (0 : Int32) o_up_size o_up_limbs_c).bind fun u17 => (f_Bg_timesPlus (10 : Int32) (0 : Int32) o_down_size o_down_limbs_c).bind fun u27 => (f_Bg_limb (o_unit_size - (1 : Int32)) u7.1 u7.2).bind fun u45 => (f_Bg_limb (o_unit_size - (1 : Int32)) o_unit_size o_unit_limbs_c).bind fun u53 => if ¬ (u53 + (1 : Int64)) = 0 then (f_Bg_minusTimes ((u45 / (u53 + (1 : Int64))).toInt32) u7.1 u7.2 o_unit_size o_unit_limbs_c).bind fun u70 => (f_Bg_against u70.1 o_unit_size u70.2 o_unit_limbs_c).bind fun u81 => if u81 < 0 then (some ((u45 / (u53 + (1 : Int64))).toInt32, u70.1, u70.2, u17.1, u17.2, u27.1, u27.2)) else ((f_Bg_minusTimes (1 : Int32) u70.1 u70.2 o_unit_size o_unit_limbs_c).bind fun u96 => some (((u45 / (u53 + (1 : Int64))).toInt32) + 1, u96.1, u96.2, u17.1, u17.2, u27.1, u27.2)) else none) = some r := hf
  refine lv_aload_n S.1 S.2.1 d_Sh_nextDigit_0 rfl (lv_at hl 0 rfl) ?_
  refine gx_gf (v := .ref o_value) S E hP 0 rfl rfl i_Sh 1 rfl wd_230 ⟨rfl, rfl, rfl⟩ rfl d_Sh_nextDigit_1 ?_
  refine lv_bipush (v := 10) S.1 S.2.1 d_Sh_nextDigit_4 (by decide) ?_
  refine lv_iconst (v := 0) S.1 S.2.1 d_Sh_nextDigit_6 (by decide) ?_
  obtain ⟨u7, hc7, hf⟩ := gx_bnd hf
  refine gx_Vv (ws2 := (ww_Sh_nextDigit g o o_value o_value_limbs o_up o_up_limbs o_down o_down_limbs o_unit o_unit_limbs o_decimal_v (.ref o_value) (.ref o_unit) (.ref o_up) (.ref o_down) o_rest_v o_point (.ref o_value_limbs) u7.1 u7.2 (.ref o_up_limbs) o_up_size o_up_limbs_c (.ref o_down_limbs) o_down_size o_down_limbs_c (.ref o_unit_limbs) o_unit_size o_unit_limbs_c)) S E hS hP hD (c_Bg_timesPlus l z D g o_value o_value_limbs o_value_size o_value_limbs_c (10 : Int32) (0 : Int32) u7 hc7) cal_Bg_timesPlus wd_517 wd_518 wd_538 rfl [1, 2] rfl rfl rfl (gx_rc E hP 1 rfl rfl) rfl hl.1 rfl d_Sh_nextDigit_7 ⟨Nat.zero_le _, Nat.zero_le _⟩ rfl (fun H locs hS hP hD => ?_)
  refine lv_aload_n S.1 S.2.1 d_Sh_nextDigit_10 rfl (lv_at hl 0 rfl) ?_
  refine gx_gf (v := .ref o_up) S E hP 0 rfl rfl i_Sh 3 rfl wd_232 ⟨rfl, rfl, rfl⟩ rfl d_Sh_nextDigit_11 ?_
  refine lv_bipush (v := 10) S.1 S.2.1 d_Sh_nextDigit_14 (by decide) ?_
  refine lv_iconst (v := 0) S.1 S.2.1 d_Sh_nextDigit_16 (by decide) ?_
  obtain ⟨u17, hc17, hf⟩ := gx_bnd hf
  refine gx_Vv (ws2 := (ww_Sh_nextDigit g o o_value o_value_limbs o_up o_up_limbs o_down o_down_limbs o_unit o_unit_limbs o_decimal_v (.ref o_value) (.ref o_unit) (.ref o_up) (.ref o_down) o_rest_v o_point (.ref o_value_limbs) u7.1 u7.2 (.ref o_up_limbs) u17.1 u17.2 (.ref o_down_limbs) o_down_size o_down_limbs_c (.ref o_unit_limbs) o_unit_size o_unit_limbs_c)) S E hS hP hD (c_Bg_timesPlus l z D g o_up o_up_limbs o_up_size o_up_limbs_c (10 : Int32) (0 : Int32) u17 hc17) cal_Bg_timesPlus wd_517 wd_518 wd_538 rfl [3, 4] rfl rfl rfl (gx_rc E hP 3 rfl rfl) rfl hl.1 rfl d_Sh_nextDigit_17 ⟨Nat.zero_le _, Nat.zero_le _⟩ rfl (fun H locs hS hP hD => ?_)
  refine lv_aload_n S.1 S.2.1 d_Sh_nextDigit_20 rfl (lv_at hl 0 rfl) ?_
  refine gx_gf (v := .ref o_down) S E hP 0 rfl rfl i_Sh 4 rfl wd_233 ⟨rfl, rfl, rfl⟩ rfl d_Sh_nextDigit_21 ?_
  refine lv_bipush (v := 10) S.1 S.2.1 d_Sh_nextDigit_24 (by decide) ?_
  refine lv_iconst (v := 0) S.1 S.2.1 d_Sh_nextDigit_26 (by decide) ?_
  obtain ⟨u27, hc27, hf⟩ := gx_bnd hf
  refine gx_Vv (ws2 := (ww_Sh_nextDigit g o o_value o_value_limbs o_up o_up_limbs o_down o_down_limbs o_unit o_unit_limbs o_decimal_v (.ref o_value) (.ref o_unit) (.ref o_up) (.ref o_down) o_rest_v o_point (.ref o_value_limbs) u7.1 u7.2 (.ref o_up_limbs) u17.1 u17.2 (.ref o_down_limbs) u27.1 u27.2 (.ref o_unit_limbs) o_unit_size o_unit_limbs_c)) S E hS hP hD (c_Bg_timesPlus l z D g o_down o_down_limbs o_down_size o_down_limbs_c (10 : Int32) (0 : Int32) u27 hc27) cal_Bg_timesPlus wd_517 wd_518 wd_538 rfl [5, 6] rfl rfl rfl (gx_rc E hP 5 rfl rfl) rfl hl.1 rfl d_Sh_nextDigit_27 ⟨Nat.zero_le _, Nat.zero_le _⟩ rfl (fun H locs hS hP hD => ?_)
  refine lv_aload_n S.1 S.2.1 d_Sh_nextDigit_30 rfl (lv_at hl 0 rfl) ?_
  refine gx_gf (v := .ref o_unit) S E hP 0 rfl rfl i_Sh 2 rfl wd_231 ⟨rfl, rfl, rfl⟩ rfl d_Sh_nextDigit_31 ?_
  refine gx_gf (v := .int o_unit_size) S E hP 7 rfl rfl i_Bg 1 rfl wd_108 ⟨rfl, rfl, rfl⟩ rfl d_Sh_nextDigit_34 ?_
  refine lv_iconst (v := 1) S.1 S.2.1 d_Sh_nextDigit_37 (by decide) ?_
  refine lv_isub S.1 S.2.1 d_Sh_nextDigit_38 ?_
  refine lv_istore_n (lv' := [(1, .int (o_unit_size - (1 : Int32))), (0, .ref o)]) S.1 S.2.1 d_Sh_nextDigit_39 rfl hl (by decide) rfl (fun ls hl => ?_)
  refine lv_aload_n S.1 S.2.1 d_Sh_nextDigit_40 rfl (lv_at hl 1 rfl) ?_
  refine gx_gf (v := .ref o_value) S E hP 0 rfl rfl i_Sh 1 rfl wd_230 ⟨rfl, rfl, rfl⟩ rfl d_Sh_nextDigit_41 ?_
  refine lv_iload_n S.1 S.2.1 d_Sh_nextDigit_44 rfl (lv_at hl 0 rfl) ?_
  obtain ⟨u45, hc45, hf⟩ := gx_bnd hf
  refine gx_Vl (ws2 := (ww_Sh_nextDigit g o o_value o_value_limbs o_up o_up_limbs o_down o_down_limbs o_unit o_unit_limbs o_decimal_v (.ref o_value) (.ref o_unit) (.ref o_up) (.ref o_down) o_rest_v o_point (.ref o_value_limbs) u7.1 u7.2 (.ref o_up_limbs) u17.1 u17.2 (.ref o_down_limbs) u27.1 u27.2 (.ref o_unit_limbs) o_unit_size o_unit_limbs_c)) S E hS hP hD (c_Bg_limb l z D g o_value o_value_limbs u7.1 u7.2 (o_unit_size - (1 : Int32)) u45 hc45) cal_Bg_limb wd_527 wd_528 wd_553 rfl [1, 2] rfl rfl rfl (gx_rc E hP 1 rfl rfl) rfl hl.1 rfl d_Sh_nextDigit_45 ⟨Nat.zero_le _, Nat.zero_le _⟩ rfl (fun H locs hS hP hD => ?_)
  refine lv_aload_n S.1 S.2.1 d_Sh_nextDigit_48 rfl (lv_at hl 1 rfl) ?_
  refine gx_gf (v := .ref o_unit) S E hP 0 rfl rfl i_Sh 2 rfl wd_231 ⟨rfl, rfl, rfl⟩ rfl d_Sh_nextDigit_49 ?_
  refine lv_iload_n S.1 S.2.1 d_Sh_nextDigit_52 rfl (lv_at hl 0 rfl) ?_
  obtain ⟨u53, hc53, hf⟩ := gx_bnd hf
  refine gx_Vl (ws2 := (ww_Sh_nextDigit g o o_value o_value_limbs o_up o_up_limbs o_down o_down_limbs o_unit o_unit_limbs o_decimal_v (.ref o_value) (.ref o_unit) (.ref o_up) (.ref o_down) o_rest_v o_point (.ref o_value_limbs) u7.1 u7.2 (.ref o_up_limbs) u17.1 u17.2 (.ref o_down_limbs) u27.1 u27.2 (.ref o_unit_limbs) o_unit_size o_unit_limbs_c)) S E hS hP hD (c_Bg_limb l z D g o_unit o_unit_limbs o_unit_size o_unit_limbs_c (o_unit_size - (1 : Int32)) u53 hc53) cal_Bg_limb wd_527 wd_528 wd_553 rfl [7, 8] rfl rfl rfl (gx_rc E hP 7 rfl rfl) rfl hl.1 rfl d_Sh_nextDigit_53 ⟨Nat.zero_le _, Nat.zero_le _⟩ rfl (fun H locs hS hP hD => ?_)
  refine lv_lconst (v := 1) S.1 S.2.1 d_Sh_nextDigit_56 (by decide) ?_
  refine lv_ladd S.1 S.2.1 d_Sh_nextDigit_57 ?_
  obtain ⟨hne, hf⟩ := gx_chk hf
  refine lv_ldiv S.1 S.2.1 d_Sh_nextDigit_58 hne ?_
  refine lv_l2i S.1 S.2.1 d_Sh_nextDigit_59 rfl ?_
  refine lv_istore_n (lv' := [(2, .int ((u45 / (u53 + (1 : Int64))).toInt32)), (1, .int (o_unit_size - (1 : Int32))), (0, .ref o)]) S.1 S.2.1 d_Sh_nextDigit_60 rfl hl (by decide) rfl (fun ls hl => ?_)
  refine lv_aload_n S.1 S.2.1 d_Sh_nextDigit_61 rfl (lv_at hl 2 rfl) ?_
  refine gx_gf (v := .ref o_value) S E hP 0 rfl rfl i_Sh 1 rfl wd_230 ⟨rfl, rfl, rfl⟩ rfl d_Sh_nextDigit_62 ?_
  refine lv_aload_n S.1 S.2.1 d_Sh_nextDigit_65 rfl (lv_at hl 2 rfl) ?_
  refine gx_gf (v := .ref o_unit) S E hP 0 rfl rfl i_Sh 2 rfl wd_231 ⟨rfl, rfl, rfl⟩ rfl d_Sh_nextDigit_66 ?_
  refine lv_iload_n S.1 S.2.1 d_Sh_nextDigit_69 rfl (lv_at hl 0 rfl) ?_
  obtain ⟨u70, hc70, hf⟩ := gx_bnd hf
  refine gx_Vv (ws2 := (ww_Sh_nextDigit g o o_value o_value_limbs o_up o_up_limbs o_down o_down_limbs o_unit o_unit_limbs o_decimal_v (.ref o_value) (.ref o_unit) (.ref o_up) (.ref o_down) o_rest_v o_point (.ref o_value_limbs) u70.1 u70.2 (.ref o_up_limbs) u17.1 u17.2 (.ref o_down_limbs) u27.1 u27.2 (.ref o_unit_limbs) o_unit_size o_unit_limbs_c)) S E hS hP hD (c_Bg_minusTimes l z D g o_value o_value_limbs o_unit o_unit_limbs u7.1 u7.2 o_unit_size o_unit_limbs_c ((u45 / (u53 + (1 : Int64))).toInt32) u70 hc70) cal_Bg_minusTimes wd_555 wd_556 wd_554 rfl [1, 2, 7, 8] rfl rfl rfl (gx_rc E hP 1 rfl rfl) rfl hl.1 rfl d_Sh_nextDigit_70 ⟨Nat.zero_le _, Nat.zero_le _⟩ rfl (fun H locs hS hP hD => ?_)
  refine lv_aload_n S.1 S.2.1 d_Sh_nextDigit_73 rfl (lv_at hl 2 rfl) ?_
  refine gx_gf (v := .ref o_value) S E hP 0 rfl rfl i_Sh 1 rfl wd_230 ⟨rfl, rfl, rfl⟩ rfl d_Sh_nextDigit_74 ?_
  refine lv_aload_n S.1 S.2.1 d_Sh_nextDigit_77 rfl (lv_at hl 2 rfl) ?_
  refine gx_gf (v := .ref o_unit) S E hP 0 rfl rfl i_Sh 2 rfl wd_231 ⟨rfl, rfl, rfl⟩ rfl d_Sh_nextDigit_78 ?_
  obtain ⟨u81, hc81, hf⟩ := gx_bnd hf
  refine gx_Vi (ws2 := (ww_Sh_nextDigit g o o_value o_value_limbs o_up o_up_limbs o_down o_down_limbs o_unit o_unit_limbs o_decimal_v (.ref o_value) (.ref o_unit) (.ref o_up) (.ref o_down) o_rest_v o_point (.ref o_value_limbs) u70.1 u70.2 (.ref o_up_limbs) u17.1 u17.2 (.ref o_down_limbs) u27.1 u27.2 (.ref o_unit_limbs) o_unit_size o_unit_limbs_c)) S E hS hP hD (c_Bg_against l z D g o_value o_unit o_value_limbs o_unit_limbs u70.1 o_unit_size u70.2 o_unit_limbs_c u81 hc81) cal_Bg_against wd_535 wd_536 wd_534 rfl [1, 7, 2, 8] rfl rfl rfl (gx_rc E hP 1 rfl rfl) rfl hl.1 rfl d_Sh_nextDigit_81 ⟨Nat.zero_le _, Nat.zero_le _⟩ rfl (fun H locs hS hP hD => ?_)
  refine lv_if_lt (tgt := 102) S.1 S.2.1 d_Sh_nextDigit_84 (by decide) (fun h => ?_) (fun h => ?_)
  ·
    have hf := gx_ifp h hf
    refine lv_iload_n S.1 S.2.1 d_Sh_nextDigit_102 rfl (lv_at hl 0 rfl) ?_
    obtain rfl := Option.some.inj hf
    exact gx_ri S hr hlk hS hP hD d_Sh_nextDigit_103
  ·
    have hf := gx_ifn h hf
    refine lv_aload_n S.1 S.2.1 d_Sh_nextDigit_87 rfl (lv_at hl 2 rfl) ?_
    refine gx_gf (v := .ref o_value) S E hP 0 rfl rfl i_Sh 1 rfl wd_230 ⟨rfl, rfl, rfl⟩ rfl d_Sh_nextDigit_88 ?_
    refine lv_aload_n S.1 S.2.1 d_Sh_nextDigit_91 rfl (lv_at hl 2 rfl) ?_
    refine gx_gf (v := .ref o_unit) S E hP 0 rfl rfl i_Sh 2 rfl wd_231 ⟨rfl, rfl, rfl⟩ rfl d_Sh_nextDigit_92 ?_
    refine lv_iconst (v := 1) S.1 S.2.1 d_Sh_nextDigit_95 (by decide) ?_
    obtain ⟨u96, hc96, hf⟩ := gx_bnd hf
    refine gx_Vv (ws2 := (ww_Sh_nextDigit g o o_value o_value_limbs o_up o_up_limbs o_down o_down_limbs o_unit o_unit_limbs o_decimal_v (.ref o_value) (.ref o_unit) (.ref o_up) (.ref o_down) o_rest_v o_point (.ref o_value_limbs) u96.1 u96.2 (.ref o_up_limbs) u17.1 u17.2 (.ref o_down_limbs) u27.1 u27.2 (.ref o_unit_limbs) o_unit_size o_unit_limbs_c)) S E hS hP hD (c_Bg_minusTimes l z D g o_value o_value_limbs o_unit o_unit_limbs u70.1 u70.2 o_unit_size o_unit_limbs_c (1 : Int32) u96 hc96) cal_Bg_minusTimes wd_555 wd_556 wd_554 rfl [1, 2, 7, 8] rfl rfl rfl (gx_rc E hP 1 rfl rfl) rfl hl.1 rfl d_Sh_nextDigit_96 ⟨Nat.zero_le _, Nat.zero_le _⟩ rfl (fun H locs hS hP hD => ?_)
    refine lv_iinc (v := ((u45 / (u53 + (1 : Int64))).toInt32) + 1) (lv' := [(2, .int (((u45 / (u53 + (1 : Int64))).toInt32) + 1)), (1, .int (o_unit_size - (1 : Int32))), (0, .ref o)]) S.1 S.2.1 d_Sh_nextDigit_99 hl (k := 0) rfl rfl (by decide) rfl (fun ls hl => ?_)
    refine lv_iload_n S.1 S.2.1 d_Sh_nextDigit_102 rfl (lv_at hl 0 rfl) ?_
    obtain rfl := Option.some.inj hf
    exact gx_ri S hr hlk hS hP hD d_Sh_nextDigit_103
