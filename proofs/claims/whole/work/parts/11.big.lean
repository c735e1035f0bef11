theorem d_Bg_limb_0 : decode b_Bg_limb 0 = .ok (.iload_n 1, 1) := by decide +kernel
theorem d_Bg_limb_1 : decode b_Bg_limb 1 = .ok (.ifCond .lt 25, 3) := by decide +kernel
theorem d_Bg_limb_4 : decode b_Bg_limb 4 = .ok (.iload_n 1, 1) := by decide +kernel
theorem d_Bg_limb_5 : decode b_Bg_limb 5 = .ok (.aload_n 0, 1) := by decide +kernel
theorem d_Bg_limb_6 : decode b_Bg_limb 6 = .ok (.getfield 13, 3) := by decide +kernel
theorem d_Bg_limb_9 : decode b_Bg_limb 9 = .ok (.if_icmp .ge 17, 3) := by decide +kernel
theorem d_Bg_limb_12 : decode b_Bg_limb 12 = .ok (.aload_n 0, 1) := by decide +kernel
theorem d_Bg_limb_13 : decode b_Bg_limb 13 = .ok (.getfield 9, 3) := by decide +kernel
theorem d_Bg_limb_16 : decode b_Bg_limb 16 = .ok (.iload_n 1, 1) := by decide +kernel
theorem d_Bg_limb_17 : decode b_Bg_limb 17 = .ok (.iaload, 1) := by decide +kernel
theorem d_Bg_limb_18 : decode b_Bg_limb 18 = .ok (.i2l, 1) := by decide +kernel
theorem d_Bg_limb_19 : decode b_Bg_limb 19 = .ok (.ldc2_w 17, 3) := by decide +kernel
theorem d_Bg_limb_22 : decode b_Bg_limb 22 = .ok (.land, 1) := by decide +kernel
theorem d_Bg_limb_23 : decode b_Bg_limb 23 = .ok (.goto 4, 3) := by decide +kernel
theorem d_Bg_limb_26 : decode b_Bg_limb 26 = .ok (.lconst 0, 1) := by decide +kernel
theorem d_Bg_limb_27 : decode b_Bg_limb 27 = .ok (.lreturn, 1) := by decide +kernel
theorem cal_Bg_limb : gx_cal y_Bg_limb b_Bg_limb 2 (some .long) 1 := ⟨wd_529, wd_5, by decide +kernel⟩
def ww_Bg_limb (g : Nat → ClassId) (o : Nat) (o_limbs : Nat) (x_o_limbs : Value) (x_o_size : Int32) (y_o_limbs : Nat → Int32) : va_W := [(o, .inr (1, [x_o_limbs, .int x_o_size])), (o_limbs, .inl (g 0, 96, .inl y_o_limbs))]
def f_Bg_limb_26 (o_size : Int32) (o_limbs_c : Nat → Int32) : Option (Int64) := some (0 : Int64)
def f_Bg_limb (a1 : Int32) (o_size : Int32) (o_limbs_c : Nat → Int32) : Option (Int64) := if a1 < 0 then (f_Bg_limb_26 o_size o_limbs_c) else (if o_size ≤ a1 then (f_Bg_limb_26 o_size o_limbs_c) else (if gx_ok a1 96 = true then some (((o_limbs_c a1.toNatClampNeg).toInt64) &&& (4294967295 : Int64)) else none))
set_option maxHeartbeats 4000000 in
set_option maxRecDepth 100000 in
theorem c_Bg_limb (l : Launch) (z : State) (D : va_G) (g : Nat → ClassId) (o : Nat) (o_limbs : Nat) (o_size : Int32) (o_limbs_c : Nat → Int32) (a1 : Int32) (r : Int64) (hf : f_Bg_limb a1 o_size o_limbs_c = some r) : gx_Ml l z D g y_Bg_limb b_Bg_limb 2 .long ({ frames := 0, cells := 0, slots := 0, locals := 0 } : Room) [.ref o, .int a1] (ww_Bg_limb g o o_limbs (.ref o_limbs) o_size o_limbs_c) (ww_Bg_limb g o o_limbs (.ref o_limbs) o_size o_limbs_c) r := by
  refine gx_go (by decide +kernel) rfl ?_
  intro p e s m below meth c ls S hr hlk hnm E hP hD hl
  have hS : va_S (va_A (ww_Bg_limb g o o_limbs (.ref o_limbs) o_size o_limbs_c) s.heap.size) s.heap s.heap [] := va_S.rf
  have hl : lv_has ls 2 [(0, .ref o), (1, .int a1)] := hl
  have c_26 : ∀  (ls : Array Slot) (H : Heap) (locs : List Loc), lv_has ls 2 [] → va_S (va_A (ww_Bg_limb g o o_limbs (.ref o_limbs) o_size o_limbs_c) s.heap.size) s.heap H locs → va_P D vwC (ww_Bg_limb g o o_limbs (.ref o_limbs) o_size o_limbs_c) H → va_D (va_A (ww_Bg_limb g o o_limbs (.ref o_limbs) o_size o_limbs_c) s.heap.size) (ww_Bg_limb g o o_limbs (.ref o_limbs) o_size o_limbs_c) → (f_Bg_limb_26 o_size o_limbs_c) = some r → W p l e ({ frames := 0, cells := 0, slots := 0, locals := 0 } : Room) s m ([.ref o, .int a1] : List Value).toArray below meth c H locs 0 0 (MQ below (gx_Ql D (ww_Bg_limb g o o_limbs (.ref o_limbs) o_size o_limbs_c) (ww_Bg_limb g o o_limbs (.ref o_limbs) o_size o_limbs_c) r s.heap.size) ([.ref o, .int a1] : List Value).toArray s 0 0 (va_A (ww_Bg_limb g o o_limbs (.ref o_limbs) o_size o_limbs_c) s.heap.size)) (F0 m 26 ls []) := by
    intro  ls H locs hl hS hP hD hf
    have hf : (some (0 : Int64)) = some r := hf
    refine lv_lconst (v := 0) S.1 S.2.1 d_Bg_limb_26 (by decide) ?_
    obtain rfl := Option.some.inj hf
    exact gx_rl S hr hlk hS hP hD d_Bg_limb_27
  have hf : (if a1 < 0 then (f_Bg_limb_26 o_size o_limbs_c) else (if o_size ≤ a1 then (f_Bg_limb_26 o_size o_limbs_c) else (if gx_ok a1 96 = true then some (((o_limbs_c a1.toNatClampNeg).toInt64) &&& (4294967295 : Int64)) else none))) = some r := hf
  refine lv_iload_n S.1 S.2.1 d_Bg_limb_0 rfl (lv_at hl 1 rfl) ?_
  refine lv_if_lt (tgt := 26) S.1 S.2.1 d_Bg_limb_1 (by decide) (fun h => ?_) (fun h => ?_)
  ·
    have hf := gx_ifp h hf
    exact c_26  ls _ _ (lv_sub hl [] rfl) hS hP hD hf
  ·
    have hf := gx_ifn h hf
    refine lv_iload_n S.1 S.2.1 d_Bg_limb_4 rfl (lv_at hl 1 rfl) ?_
    refine lv_aload_n S.1 S.2.1 d_Bg_limb_5 rfl (lv_at hl 0 rfl) ?_
    refine gx_gf (v := .int o_size) S E hP 0 rfl rfl i_Bg 1 rfl wd_107 ⟨rfl, rfl, rfl⟩ rfl d_Bg_limb_6 ?_
    refine lv_icmp_ge (tgt := 26) S.1 S.2.1 d_Bg_limb_9 (by decide) (fun h => ?_) (fun h => ?_)
    ·
      have hf := gx_ifp h hf
      exact c_26  ls _ _ (lv_sub hl [] rfl) hS hP hD hf
    ·
      have hf := gx_ifn h hf
      refine lv_aload_n S.1 S.2.1 d_Bg_limb_12 rfl (lv_at hl 0 rfl) ?_
      refine gx_gf (v := .ref o_limbs) S E hP 0 rfl rfl i_Bg 0 rfl wd_106 ⟨rfl, rfl, rfl⟩ rfl d_Bg_limb_13 ?_
      refine lv_iload_n S.1 S.2.1 d_Bg_limb_16 rfl (lv_at hl 1 rfl) ?_
      obtain ⟨hin, hf⟩ := gx_chk hf
      refine va_iald S.1 S.2.1 E.1.1 hP 1 0 rfl rfl (gx_okv hin) d_Bg_limb_17 ?_
      refine lv_i2l S.1 S.2.1 d_Bg_limb_18 rfl ?_
      refine lv_ldc2 (v := 4294967295) S.1 S.2.1 S.2.2.2.1 (S.2.2.2.2 _ wd_520) d_Bg_limb_19 ?_
      refine lv_land S.1 S.2.1 d_Bg_limb_22 ?_
      refine lv_goto (tgt := 27) S.1 S.2.1 d_Bg_limb_23 (by decide) ?_
      obtain rfl := Option.some.inj hf
      exact gx_rl S hr hlk hS hP hD d_Bg_limb_27
theorem d_Bg_isZero_0 : decode b_Bg_isZero 0 = .ok (.aload_n 0, 1) := by decide +kernel
theorem d_Bg_isZero_1 : decode b_Bg_isZero 1 = .ok (.getfield 13, 3) := by decide +kernel
theorem d_Bg_isZero_4 : decode b_Bg_isZero 4 = .ok (.ifCond .ne 7, 3) := by decide +kernel
theorem d_Bg_isZero_7 : decode b_Bg_isZero 7 = .ok (.iconst 1, 1) := by decide +kernel
theorem d_Bg_isZero_8 : decode b_Bg_isZero 8 = .ok (.goto 4, 3) := by decide +kernel
theorem d_Bg_isZero_11 : decode b_Bg_isZero 11 = .ok (.iconst 0, 1) := by decide +kernel
theorem d_Bg_isZero_12 : decode b_Bg_isZero 12 = .ok (.ireturn, 1) := by decide +kernel
theorem cal_Bg_isZero : gx_cal y_Bg_isZero b_Bg_isZero 1 (some .boolean) 0 := ⟨wd_836, wd_5, by decide +kernel⟩
def ww_Bg_isZero (g : Nat → ClassId) (o : Nat) (x_o_limbs : Value) (x_o_size : Int32) : va_W := [(o, .inr (1, [x_o_limbs, .int x_o_size]))]
def f_Bg_isZero (o_size : Int32) : Option (Int32) := if o_size = 0 then (some (1 : Int32)) else (some (0 : Int32))
set_option maxHeartbeats 4000000 in
set_option maxRecDepth 100000 in
theorem c_Bg_isZero (l : Launch) (z : State) (D : va_G) (g : Nat → ClassId) (o : Nat) (o_limbs_v : Value) (o_size : Int32) (r : Int32) (hf : f_Bg_isZero o_size = some r) : gx_Mi l z D g y_Bg_isZero b_Bg_isZero 1 .boolean ({ frames := 0, cells := 0, slots := 0, locals := 0 } : Room) [.ref o] (ww_Bg_isZero g o o_limbs_v o_size) (ww_Bg_isZero g o o_limbs_v o_size) r := by
  refine gx_go (by decide +kernel) rfl ?_
  intro p e s m below meth c ls S hr hlk hnm E hP hD hl
  have hS : va_S (va_A (ww_Bg_isZero g o o_limbs_v o_size) s.heap.size) s.heap s.heap [] := va_S.rf
  have hl : lv_has ls 1 [(0, .ref o)] := hl
  have hf : (if o_size = 0 then (some (1 : Int32)) else (some (0 : Int32))) = some r := hf
  refine lv_aload_n S.1 S.2.1 d_Bg_isZero_0 rfl (lv_at hl 0 rfl) ?_
  refine gx_gf (v := .int o_size) S E hP 0 rfl rfl i_Bg 1 rfl wd_107 ⟨rfl, rfl, rfl⟩ rfl d_Bg_isZero_1 ?_
  refine lv_if_ne (tgt := 11) S.1 S.2.1 d_Bg_isZero_4 (by decide) (fun h => ?_) (fun h => ?_)
  ·
    have hf := gx_ifn h hf
    refine lv_iconst (v := 0) S.1 S.2.1 d_Bg_isZero_11 (by decide) ?_
    obtain rfl := Option.some.inj hf
    exact gx_rz S hr gx_n0 hlk hS hP hD d_Bg_isZero_12
  ·
    have hf := gx_ifp h hf
    refine lv_iconst (v := 1) S.1 S.2.1 d_Bg_isZero_7 (by decide) ?_
    refine lv_goto (tgt := 12) S.1 S.2.1 d_Bg_isZero_8 (by decide) ?_
    obtain rfl := Option.some.inj hf
    exact gx_rz S hr gx_n1 hlk hS hP hD d_Bg_isZero_12
theorem d_Bg_bitLength_0 : decode b_Bg_bitLength 0 = .ok (.aload_n 0, 1) := by decide +kernel
theorem d_Bg_bitLength_1 : decode b_Bg_bitLength 1 = .ok (.getfield 13, 3) := by decide +kernel
theorem d_Bg_bitLength_4 : decode b_Bg_bitLength 4 = .ok (.bipush 32, 2) := by decide +kernel
theorem d_Bg_bitLength_6 : decode b_Bg_bitLength 6 = .ok (.imul, 1) := by decide +kernel
theorem d_Bg_bitLength_7 : decode b_Bg_bitLength 7 = .ok (.aload_n 0, 1) := by decide +kernel
theorem d_Bg_bitLength_8 : decode b_Bg_bitLength 8 = .ok (.getfield 13, 3) := by decide +kernel
theorem d_Bg_bitLength_11 : decode b_Bg_bitLength 11 = .ok (.ifCond .ne 7, 3) := by decide +kernel
theorem d_Bg_bitLength_14 : decode b_Bg_bitLength 14 = .ok (.iconst 0, 1) := by decide +kernel
theorem d_Bg_bitLength_15 : decode b_Bg_bitLength 15 = .ok (.goto 17, 3) := by decide +kernel
theorem d_Bg_bitLength_18 : decode b_Bg_bitLength 18 = .ok (.aload_n 0, 1) := by decide +kernel
theorem d_Bg_bitLength_19 : decode b_Bg_bitLength 19 = .ok (.getfield 9, 3) := by decide +kernel
theorem d_Bg_bitLength_22 : decode b_Bg_bitLength 22 = .ok (.aload_n 0, 1) := by decide +kernel
theorem d_Bg_bitLength_23 : decode b_Bg_bitLength 23 = .ok (.getfield 13, 3) := by decide +kernel
theorem d_Bg_bitLength_26 : decode b_Bg_bitLength 26 = .ok (.iconst 1, 1) := by decide +kernel
theorem d_Bg_bitLength_27 : decode b_Bg_bitLength 27 = .ok (.isub, 1) := by decide +kernel
theorem d_Bg_bitLength_28 : decode b_Bg_bitLength 28 = .ok (.iaload, 1) := by decide +kernel
theorem d_Bg_bitLength_29 : decode b_Bg_bitLength 29 = .ok (.invokestatic 19, 3) := by decide +kernel
theorem d_Bg_bitLength_32 : decode b_Bg_bitLength 32 = .ok (.isub, 1) := by decide +kernel
theorem d_Bg_bitLength_33 : decode b_Bg_bitLength 33 = .ok (.ireturn, 1) := by decide +kernel
theorem cal_Bg_bitLength : gx_cal y_Bg_bitLength b_Bg_bitLength 1 (some .int) 0 := ⟨wd_542, wd_5, by decide +kernel⟩
def ww_Bg_bitLength (g : Nat → ClassId) (o : Nat) (o_limbs : Nat) (x_o_limbs : Value) (x_o_size : Int32) (y_o_limbs : Nat → Int32) : va_W := [(o, .inr (1, [x_o_limbs, .int x_o_size])), (o_limbs, .inl (g 0, 96, .inl y_o_limbs))]
def f_Bg_bitLength (o_size : Int32) (o_limbs_c : Nat → Int32) : Option (Int32) := if o_size = 0 then (some ((o_size * (32 : Int32)) - (0 : Int32))) else (if gx_ok (o_size - (1 : Int32)) 96 = true then (f_JInt_numberOfLeadingZeros (o_limbs_c (o_size - (1 : Int32)).toNatClampNeg)).bind fun u29 => some ((o_size * (32 : Int32)) - u29) else none)
set_option maxHeartbeats 4000000 in
set_option maxRecDepth 100000 in
theorem c_Bg_bitLength (l : Launch) (z : State) (D : va_G) (g : Nat → ClassId) (o : Nat) (o_limbs : Nat) (o_size : Int32) (o_limbs_c : Nat → Int32) (r : Int32) (hf : f_Bg_bitLength o_size o_limbs_c = some r) : gx_Mi l z D g y_Bg_bitLength b_Bg_bitLength 1 .int ({ frames := 1, cells := 0, slots := 0, locals := 21 } : Room) [.ref o] (ww_Bg_bitLength g o o_limbs (.ref o_limbs) o_size o_limbs_c) (ww_Bg_bitLength g o o_limbs (.ref o_limbs) o_size o_limbs_c) r := by
  refine gx_go (by decide +kernel) rfl ?_
  intro p e s m below meth c ls S hr hlk hnm E hP hD hl
  have hS : va_S (va_A (ww_Bg_bitLength g o o_limbs (.ref o_limbs) o_size o_limbs_c) s.heap.size) s.heap s.heap [] := va_S.rf
  have hl : lv_has ls 1 [(0, .ref o)] := hl
  have hf : (if o_size = 0 then (some ((o_size * (32 : Int32)) - (0 : Int32))) else (if gx_ok (o_size - (1 : Int32)) 96 = true then (f_JInt_numberOfLeadingZeros (o_limbs_c (o_size - (1 : Int32)).toNatClampNeg)).bind fun u29 => some ((o_size * (32 : Int32)) - u29) else none)) = some r := hf
  refine lv_aload_n S.1 S.2.1 d_Bg_bitLength_0 rfl (lv_at hl 0 rfl) ?_
  refine gx_gf (v := .int o_size) S E hP 0 rfl rfl i_Bg 1 rfl wd_107 ⟨rfl, rfl, rfl⟩ rfl d_Bg_bitLength_1 ?_
  refine lv_bipush (v := 32) S.1 S.2.1 d_Bg_bitLength_4 (by decide) ?_
  refine lv_imul S.1 S.2.1 d_Bg_bitLength_6 ?_
  refine lv_aload_n S.1 S.2.1 d_Bg_bitLength_7 rfl (lv_at hl 0 rfl) ?_
  refine gx_gf (v := .int o_size) S E hP 0 rfl rfl i_Bg 1 rfl wd_107 ⟨rfl, rfl, rfl⟩ rfl d_Bg_bitLength_8 ?_
  refine lv_if_ne (tgt := 18) S.1 S.2.1 d_Bg_bitLength_11 (by decide) (fun h => ?_) (fun h => ?_)
  ·
    have hf := gx_ifn h hf
    refine lv_aload_n S.1 S.2.1 d_Bg_bitLength_18 rfl (lv_at hl 0 rfl) ?_
    refine gx_gf (v := .ref o_limbs) S E hP 0 rfl rfl i_Bg 0 rfl wd_106 ⟨rfl, rfl, rfl⟩ rfl d_Bg_bitLength_19 ?_
    refine lv_aload_n S.1 S.2.1 d_Bg_bitLength_22 rfl (lv_at hl 0 rfl) ?_
    refine gx_gf (v := .int o_size) S E hP 0 rfl rfl i_Bg 1 rfl wd_107 ⟨rfl, rfl, rfl⟩ rfl d_Bg_bitLength_23 ?_
    refine lv_iconst (v := 1) S.1 S.2.1 d_Bg_bitLength_26 (by decide) ?_
    refine lv_isub S.1 S.2.1 d_Bg_bitLength_27 ?_
    obtain ⟨hin, hf⟩ := gx_chk hf
    refine va_iald S.1 S.2.1 E.1.1 hP 1 0 rfl rfl (gx_okv hin) d_Bg_bitLength_28 ?_
    obtain ⟨u29, hc29, hf⟩ := gx_bnd hf
    refine gx_Si (ws2 := (ww_Bg_bitLength g o o_limbs (.ref o_limbs) o_size o_limbs_c)) S E hS hP hD (c_JInt_numberOfLeadingZeros l z D g (o_limbs_c (o_size - (1 : Int32)).toNatClampNeg) u29 hc29) cal_JInt_numberOfLeadingZeros wd_493 wd_543 rfl [] rfl rfl rfl rfl hl.1 rfl d_Bg_bitLength_29 ⟨Nat.zero_le _, Nat.zero_le _⟩ rfl (fun H locs hS hP hD => ?_)
    refine lv_isub S.1 S.2.1 d_Bg_bitLength_32 ?_
    obtain rfl := Option.some.inj hf
    exact gx_ri S hr hlk hS hP hD d_Bg_bitLength_33
  ·
    have hf := gx_ifp h hf
    refine lv_iconst (v := 0) S.1 S.2.1 d_Bg_bitLength_14 (by decide) ?_
    refine lv_goto (tgt := 32) S.1 S.2.1 d_Bg_bitLength_15 (by decide) ?_
    refine lv_isub S.1 S.2.1 d_Bg_bitLength_32 ?_
    obtain rfl := Option.some.inj hf
    exact gx_ri S hr hlk hS hP hD d_Bg_bitLength_33
theorem d_Bg_trim_0 : decode b_Bg_trim 0 = .ok (.aload_n 0, 1) := by decide +kernel
theorem d_Bg_trim_1 : decode b_Bg_trim 1 = .ok (.getfield 13, 3) := by decide +kernel
theorem d_Bg_trim_4 : decode b_Bg_trim 4 = .ok (.istore_n 1, 1) := by decide +kernel
theorem d_Bg_trim_5 : decode b_Bg_trim 5 = .ok (.iload_n 1, 1) := by decide +kernel
theorem d_Bg_trim_6 : decode b_Bg_trim 6 = .ok (.ifCond .le 27, 3) := by decide +kernel
theorem d_Bg_trim_9 : decode b_Bg_trim 9 = .ok (.aload_n 0, 1) := by decide +kernel
theorem d_Bg_trim_10 : decode b_Bg_trim 10 = .ok (.getfield 9, 3) := by decide +kernel
theorem d_Bg_trim_13 : decode b_Bg_trim 13 = .ok (.iload_n 1, 1) := by decide +kernel
theorem d_Bg_trim_14 : decode b_Bg_trim 14 = .ok (.iconst 1, 1) := by decide +kernel
theorem d_Bg_trim_15 : decode b_Bg_trim 15 = .ok (.isub, 1) := by decide +kernel
theorem d_Bg_trim_16 : decode b_Bg_trim 16 = .ok (.iaload, 1) := by decide +kernel
theorem d_Bg_trim_17 : decode b_Bg_trim 17 = .ok (.ifCond .ne 16, 3) := by decide +kernel
theorem d_Bg_trim_20 : decode b_Bg_trim 20 = .ok (.aload_n 0, 1) := by decide +kernel
theorem d_Bg_trim_21 : decode b_Bg_trim 21 = .ok (.iload_n 1, 1) := by decide +kernel
theorem d_Bg_trim_22 : decode b_Bg_trim 22 = .ok (.iconst 1, 1) := by decide +kernel
theorem d_Bg_trim_23 : decode b_Bg_trim 23 = .ok (.isub, 1) := by decide +kernel
theorem d_Bg_trim_24 : decode b_Bg_trim 24 = .ok (.putfield 13, 3) := by decide +kernel
theorem d_Bg_trim_27 : decode b_Bg_trim 27 = .ok (.iinc 1 (-1), 3) := by decide +kernel
theorem d_Bg_trim_30 : decode b_Bg_trim 30 = .ok (.goto (-25), 3) := by decide +kernel
theorem d_Bg_trim_33 : decode b_Bg_trim 33 = .ok (.return_, 1) := by decide +kernel
theorem cal_Bg_trim : gx_cal y_Bg_trim b_Bg_trim 2 none 0 := ⟨wd_509, wd_5, by decide +kernel⟩
def ww_Bg_trim (g : Nat → ClassId) (o : Nat) (o_limbs : Nat) (x_o_limbs : Value) (x_o_size : Int32) (y_o_limbs : Nat → Int32) : va_W := [(o, .inr (1, [x_o_limbs, .int x_o_size])), (o_limbs, .inl (g 0, 96, .inl y_o_limbs))]
def f_Bg_trim_5 : Nat → Int32 → Int32 → (Nat → Int32) → Option (Int32)
  | 0, _, _, _ => none
  | n + 1, v1, o_sizeq, o_limbs_c => if v1 ≤ 0 then (some o_sizeq) else (if gx_ok (v1 - (1 : Int32)) 96 = true then if (o_limbs_c (v1 - (1 : Int32)).toNatClampNeg) = 0 then (f_Bg_trim_5 n (v1 + (-1)) (v1 - (1 : Int32)) o_limbs_c) else (some o_sizeq) else none)
def f_Bg_trim (o_size : Int32) (o_limbs_c : Nat → Int32) : Option (Int32) := f_Bg_trim_5 gx_fu o_size o_size o_limbs_c
set_option maxHeartbeats 4000000 in
set_option maxRecDepth 100000 in
theorem c_Bg_trim (l : Launch) (z : State) (D : va_G) (g : Nat → ClassId) (o : Nat) (o_limbs : Nat) (o_size : Int32) (o_limbs_c : Nat → Int32) (r : Int32) (hf : f_Bg_trim o_size o_limbs_c = some r) : gx_Mv l z D g y_Bg_trim b_Bg_trim 2 ({ frames := 0, cells := 0, slots := 0, locals := 0 } : Room) [.ref o] (ww_Bg_trim g o o_limbs (.ref o_limbs) o_size o_limbs_c) (ww_Bg_trim g o o_limbs (.ref o_limbs) r o_limbs_c) := by
  refine gx_go (by decide +kernel) rfl ?_
  intro p e s m below meth c ls S hr hlk hnm E hP hD hl
  have hS : va_S (va_A (ww_Bg_trim g o o_limbs (.ref o_limbs) o_size o_limbs_c) s.heap.size) s.heap s.heap [] := va_S.rf
  have hl : lv_has ls 2 [(0, .ref o)] := hl
  have c_5 : ∀ n : Nat, ∀ (v1 : Int32) (o_sizeq : Int32) (ls : Array Slot) (H : Heap) (locs : List Loc), lv_has ls 2 [(0, .ref o), (1, .int v1)] → va_S (va_A (ww_Bg_trim g o o_limbs (.ref o_limbs) o_size o_limbs_c) s.heap.size) s.heap H locs → va_P D vwC (ww_Bg_trim g o o_limbs (.ref o_limbs) o_sizeq o_limbs_c) H → va_D (va_A (ww_Bg_trim g o o_limbs (.ref o_limbs) o_size o_limbs_c) s.heap.size) (ww_Bg_trim g o o_limbs (.ref o_limbs) o_sizeq o_limbs_c) → (f_Bg_trim_5 n v1 o_sizeq o_limbs_c) = some r → W p l e ({ frames := 0, cells := 0, slots := 0, locals := 0 } : Room) s m ([.ref o] : List Value).toArray below meth c H locs 0 0 (MQ below (gx_Qv D (ww_Bg_trim g o o_limbs (.ref o_limbs) o_size o_limbs_c) (ww_Bg_trim g o o_limbs (.ref o_limbs) r o_limbs_c) s.heap.size) ([.ref o] : List Value).toArray s 0 0 (va_A (ww_Bg_trim g o o_limbs (.ref o_limbs) o_size o_limbs_c) s.heap.size)) (F0 m 5 ls []) := by
    intro n
    induction n with
    | zero => intro v1 o_sizeq ls H locs hl hS hP hD hf; cases hf
    | succ n ih =>
      intro v1 o_sizeq ls H locs hl hS hP hD hf
      have hf : (if v1 ≤ 0 then (some o_sizeq) else (if gx_ok (v1 - (1 : Int32)) 96 = true then if (o_limbs_c (v1 - (1 : Int32)).toNatClampNeg) = 0 then (f_Bg_trim_5 n (v1 + (-1)) (v1 - (1 : Int32)) o_limbs_c) else (some o_sizeq) else none)) = some r := hf
      refine lv_iload_n S.1 S.2.1 d_Bg_trim_5 rfl (lv_at hl 1 rfl) ?_
      refine lv_if_le (tgt := 33) S.1 S.2.1 d_Bg_trim_6 (by decide) (fun h => ?_) (fun h => ?_)
      ·
        have hf := gx_ifp h hf
        obtain rfl := Option.some.inj hf
        exact gx_rv S hr hlk hS hP hD d_Bg_trim_33
      ·
        have hf := gx_ifn h hf
        refine lv_aload_n S.1 S.2.1 d_Bg_trim_9 rfl (lv_at hl 0 rfl) ?_
        refine gx_gf (v := .ref o_limbs) S E hP 0 rfl rfl i_Bg 0 rfl wd_106 ⟨rfl, rfl, rfl⟩ rfl d_Bg_trim_10 ?_
        refine lv_iload_n S.1 S.2.1 d_Bg_trim_13 rfl (lv_at hl 1 rfl) ?_
        refine lv_iconst (v := 1) S.1 S.2.1 d_Bg_trim_14 (by decide) ?_
        refine lv_isub S.1 S.2.1 d_Bg_trim_15 ?_
        obtain ⟨hin, hf⟩ := gx_chk hf
        refine va_iald S.1 S.2.1 E.1.1 hP 1 0 rfl rfl (gx_okv hin) d_Bg_trim_16 ?_
        refine lv_if_ne (tgt := 33) S.1 S.2.1 d_Bg_trim_17 (by decide) (fun h => ?_) (fun h => ?_)
        ·
          have hf := gx_ifn h hf
          obtain rfl := Option.some.inj hf
          exact gx_rv S hr hlk hS hP hD d_Bg_trim_33
        ·
          have hf := gx_ifp h hf
          refine lv_aload_n S.1 S.2.1 d_Bg_trim_20 rfl (lv_at hl 0 rfl) ?_
          refine lv_iload_n S.1 S.2.1 d_Bg_trim_21 rfl (lv_at hl 1 rfl) ?_
          refine lv_iconst (v := 1) S.1 S.2.1 d_Bg_trim_22 (by decide) ?_
          refine lv_isub S.1 S.2.1 d_Bg_trim_23 ?_
          refine gx_pf (v := .int (v1 - (1 : Int32))) (ws2 := (ww_Bg_trim g o o_limbs (.ref o_limbs) (v1 - (1 : Int32)) o_limbs_c)) S E hS hP hD 0 rfl rfl i_Bg k_Bg n_Bg 1 rfl wd_107 ⟨rfl, rfl, rfl, rfl⟩ rfl rfl rfl d_Bg_trim_24 rfl (fun H locs hS hP hD => ?_)
          refine lv_iinc (v := v1 + (-1)) (lv' := [(1, .int (v1 + (-1))), (0, .ref o)]) S.1 S.2.1 d_Bg_trim_27 hl (k := 1) rfl rfl (by decide) rfl (fun ls hl => ?_)
          refine lv_goto (tgt := 5) S.1 S.2.1 d_Bg_trim_30 (by decide) ?_
          exact ih (v1 + (-1)) (v1 - (1 : Int32)) ls _ _ (lv_sub hl [1, 0] rfl) hS hP hD hf
  have hf : (f_Bg_trim_5 gx_fu o_size o_size o_limbs_c) = some r := hf
  refine lv_aload_n S.1 S.2.1 d_Bg_trim_0 rfl (lv_at hl 0 rfl) ?_
  refine gx_gf (v := .int o_size) S E hP 0 rfl rfl i_Bg 1 rfl wd_107 ⟨rfl, rfl, rfl⟩ rfl d_Bg_trim_1 ?_
  refine lv_istore_n (lv' := [(1, .int o_size), (0, .ref o)]) S.1 S.2.1 d_Bg_trim_4 rfl hl (by decide) rfl (fun ls hl => ?_)
  exact c_5 gx_fu o_size o_size ls _ _ (lv_sub hl [1, 0] rfl) hS hP hD hf
theorem d_Bg_set_0 : decode b_Bg_set 0 = .ok (.aload_n 0, 1) := by decide +kernel
theorem d_Bg_set_1 : decode b_Bg_set 1 = .ok (.getfield 9, 3) := by decide +kernel
theorem d_Bg_set_4 : decode b_Bg_set 4 = .ok (.iconst 0, 1) := by decide +kernel
theorem d_Bg_set_5 : decode b_Bg_set 5 = .ok (.lload_n 1, 1) := by decide +kernel
theorem d_Bg_set_6 : decode b_Bg_set 6 = .ok (.l2i, 1) := by decide +kernel
theorem d_Bg_set_7 : decode b_Bg_set 7 = .ok (.iastore, 1) := by decide +kernel
theorem d_Bg_set_8 : decode b_Bg_set 8 = .ok (.aload_n 0, 1) := by decide +kernel
theorem d_Bg_set_9 : decode b_Bg_set 9 = .ok (.getfield 9, 3) := by decide +kernel
theorem d_Bg_set_12 : decode b_Bg_set 12 = .ok (.iconst 1, 1) := by decide +kernel
theorem d_Bg_set_13 : decode b_Bg_set 13 = .ok (.lload_n 1, 1) := by decide +kernel
theorem d_Bg_set_14 : decode b_Bg_set 14 = .ok (.bipush 32, 2) := by decide +kernel
theorem d_Bg_set_16 : decode b_Bg_set 16 = .ok (.lushr, 1) := by decide +kernel
theorem d_Bg_set_17 : decode b_Bg_set 17 = .ok (.l2i, 1) := by decide +kernel
theorem d_Bg_set_18 : decode b_Bg_set 18 = .ok (.iastore, 1) := by decide +kernel
theorem d_Bg_set_19 : decode b_Bg_set 19 = .ok (.aload_n 0, 1) := by decide +kernel
theorem d_Bg_set_20 : decode b_Bg_set 20 = .ok (.iconst 2, 1) := by decide +kernel
theorem d_Bg_set_21 : decode b_Bg_set 21 = .ok (.putfield 13, 3) := by decide +kernel
theorem d_Bg_set_24 : decode b_Bg_set 24 = .ok (.aload_n 0, 1) := by decide +kernel
theorem d_Bg_set_25 : decode b_Bg_set 25 = .ok (.invokevirtual 25, 3) := by decide +kernel
theorem d_Bg_set_28 : decode b_Bg_set 28 = .ok (.return_, 1) := by decide +kernel
theorem cal_Bg_set : gx_cal y_Bg_set b_Bg_set 3 none 1 := ⟨wd_505, wd_5, by decide +kernel⟩
def ww_Bg_set (g : Nat → ClassId) (o : Nat) (o_limbs : Nat) (x_o_limbs : Value) (x_o_size : Int32) (y_o_limbs : Nat → Int32) : va_W := [(o, .inr (1, [x_o_limbs, .int x_o_size])), (o_limbs, .inl (g 0, 96, .inl y_o_limbs))]
def f_Bg_set (a1 : Int64) (o_size : Int32) (o_limbs_c : Nat → Int32) : Option (Int32 × (Nat → Int32)) := if gx_ok (0 : Int32) 96 = true then if gx_ok (1 : Int32) 96 = true then (f_Bg_trim (2 : Int32) (upd (upd o_limbs_c (0 : Int32).toNatClampNeg a1.toInt32) (1 : Int32).toNatClampNeg (((a1.toUInt64 >>> ((32 : Int32).toInt64.toUInt64 &&& Int64.toUInt64 63)).toInt64).toInt32))).bind fun u25 => some (u25, upd (upd o_limbs_c (0 : Int32).toNatClampNeg a1.toInt32) (1 : Int32).toNatClampNeg (((a1.toUInt64 >>> ((32 : Int32).toInt64.toUInt64 &&& Int64.toUInt64 63)).toInt64).toInt32)) else none else none
set_option maxHeartbeats 4000000 in
set_option maxRecDepth 100000 in
theorem c_Bg_set (l : Launch) (z : State) (D : va_G) (g : Nat → ClassId) (o : Nat) (o_limbs : Nat) (o_size : Int32) (o_limbs_c : Nat → Int32) (a1 : Int64) (r : Int32 × (Nat → Int32)) (hf : f_Bg_set a1 o_size o_limbs_c = some r) : gx_Mv l z D g y_Bg_set b_Bg_set 3 ({ frames := 1, cells := 0, slots := 0, locals := 21 } : Room) [.ref o, .long a1] (ww_Bg_set g o o_limbs (.ref o_limbs) o_size o_limbs_c) (ww_Bg_set g o o_limbs (.ref o_limbs) r.1 r.2) := by
  refine gx_go (by decide +kernel) rfl ?_
  intro p e s m below meth c ls S hr hlk hnm E hP hD hl
  have hS : va_S (va_A (ww_Bg_set g o o_limbs (.ref o_limbs) o_size o_limbs_c) s.heap.size) s.heap s.heap [] := va_S.rf
  have hl : lv_has ls 3 [(0, .ref o), (1, .long a1)] := hl
  have hf : (if gx_ok (0 : Int32) 96 = true then if gx_ok (1 : Int32) 96 = true then (f_Bg_trim (2 : Int32) (upd (upd o_limbs_c (0 : Int32).toNatClampNeg a1.toInt32) (1 : Int32).toNatClampNeg (((a1.toUInt64 >>> ((32 : Int32).toInt64.toUInt64 &&& Int64.toUInt64 63)).toInt64).toInt32))).bind fun u25 => some (u25, upd (upd o_limbs_c (0 : Int32).toNatClampNeg a1.toInt32) (1 : Int32).toNatClampNeg (((a1.toUInt64 >>> ((32 : Int32).toInt64.toUInt64 &&& Int64.toUInt64 63)).toInt64).toInt32)) else none else none) = some r := hf
  refine lv_aload_n S.1 S.2.1 d_Bg_set_0 rfl (lv_at hl 0 rfl) ?_
  refine gx_gf (v := .ref o_limbs) S E hP 0 rfl rfl i_Bg 0 rfl wd_106 ⟨rfl, rfl, rfl⟩ rfl d_Bg_set_1 ?_
  refine lv_iconst (v := 0) S.1 S.2.1 d_Bg_set_4 (by decide) ?_
  refine lv_lload_n S.1 S.2.1 d_Bg_set_5 rfl (lv_at hl 1 rfl) ?_
  refine lv_l2i S.1 S.2.1 d_Bg_set_6 rfl ?_
  obtain ⟨hin, hf⟩ := gx_chk hf
  refine gx_iast (ws2 := (ww_Bg_set g o o_limbs (.ref o_limbs) o_size (upd o_limbs_c (0 : Int32).toNatClampNeg a1.toInt32))) S E hS hP hD 1 0 rfl rfl hin d_Bg_set_7 rfl (fun H locs hS hP hD => ?_)
  refine lv_aload_n S.1 S.2.1 d_Bg_set_8 rfl (lv_at hl 0 rfl) ?_
  refine gx_gf (v := .ref o_limbs) S E hP 0 rfl rfl i_Bg 0 rfl wd_106 ⟨rfl, rfl, rfl⟩ rfl d_Bg_set_9 ?_
  refine lv_iconst (v := 1) S.1 S.2.1 d_Bg_set_12 (by decide) ?_
  refine lv_lload_n S.1 S.2.1 d_Bg_set_13 rfl (lv_at hl 1 rfl) ?_
  refine lv_bipush (v := 32) S.1 S.2.1 d_Bg_set_14 (by decide) ?_
  refine lv_lushr S.1 S.2.1 d_Bg_set_16 rfl ?_
  refine lv_l2i S.1 S.2.1 d_Bg_set_17 rfl ?_
  obtain ⟨hin, hf⟩ := gx_chk hf
  refine gx_iast (ws2 := (ww_Bg_set g o o_limbs (.ref o_limbs) o_size (upd (upd o_limbs_c (0 : Int32).toNatClampNeg a1.toInt32) (1 : Int32).toNatClampNeg (((a1.toUInt64 >>> ((32 : Int32).toInt64.toUInt64 &&& Int64.toUInt64 63)).toInt64).toInt32)))) S E hS hP hD 1 0 rfl rfl hin d_Bg_set_18 rfl (fun H locs hS hP hD => ?_)
  refine lv_aload_n S.1 S.2.1 d_Bg_set_19 rfl (lv_at hl 0 rfl) ?_
  refine lv_iconst (v := 2) S.1 S.2.1 d_Bg_set_20 (by decide) ?_
  refine gx_pf (v := .int (2 : Int32)) (ws2 := (ww_Bg_set g o o_limbs (.ref o_limbs) (2 : Int32) (upd (upd o_limbs_c (0 : Int32).toNatClampNeg a1.toInt32) (1 : Int32).toNatClampNeg (((a1.toUInt64 >>> ((32 : Int32).toInt64.toUInt64 &&& Int64.toUInt64 63)).toInt64).toInt32)))) S E hS hP hD 0 rfl rfl i_Bg k_Bg n_Bg 1 rfl wd_107 ⟨rfl, rfl, rfl, rfl⟩ rfl rfl rfl d_Bg_set_21 rfl (fun H locs hS hP hD => ?_)
  refine lv_aload_n S.1 S.2.1 d_Bg_set_24 rfl (lv_at hl 0 rfl) ?_
  obtain ⟨u25, hc25, hf⟩ := gx_bnd hf
  refine gx_Vv (ws2 := (ww_Bg_set g o o_limbs (.ref o_limbs) u25 (upd (upd o_limbs_c (0 : Int32).toNatClampNeg a1.toInt32) (1 : Int32).toNatClampNeg (((a1.toUInt64 >>> ((32 : Int32).toInt64.toUInt64 &&& Int64.toUInt64 63)).toInt64).toInt32)))) S E hS hP hD (c_Bg_trim l z D g o o_limbs (2 : Int32) (upd (upd o_limbs_c (0 : Int32).toNatClampNeg a1.toInt32) (1 : Int32).toNatClampNeg (((a1.toUInt64 >>> ((32 : Int32).toInt64.toUInt64 &&& Int64.toUInt64 63)).toInt64).toInt32)) u25 hc25) cal_Bg_trim wd_508 ws_1 wd_506 rfl [0, 1] rfl rfl rfl (gx_rc E hP 0 rfl rfl) rfl hl.1 rfl d_Bg_set_25 ⟨Nat.zero_le _, Nat.zero_le _⟩ rfl (fun H locs hS hP hD => ?_)
  obtain rfl := Option.some.inj hf
  exact gx_rv S hr hlk hS hP hD d_Bg_set_28
theorem d_Bg_timesPlus_0 : decode b_Bg_timesPlus 0 = .ok (.iload_n 2, 1) := by decide +kernel
theorem d_Bg_timesPlus_1 : decode b_Bg_timesPlus 1 = .ok (.i2l, 1) := by decide +kernel
theorem d_Bg_timesPlus_2 : decode b_Bg_timesPlus 2 = .ok (.lstore_n 3, 1) := by decide +kernel
theorem d_Bg_timesPlus_3 : decode b_Bg_timesPlus 3 = .ok (.iconst 0, 1) := by decide +kernel
theorem d_Bg_timesPlus_4 : decode b_Bg_timesPlus 4 = .ok (.istore 5, 2) := by decide +kernel
theorem d_Bg_timesPlus_6 : decode b_Bg_timesPlus 6 = .ok (.iload 5, 2) := by decide +kernel
theorem d_Bg_timesPlus_8 : decode b_Bg_timesPlus 8 = .ok (.aload_n 0, 1) := by decide +kernel
theorem d_Bg_timesPlus_9 : decode b_Bg_timesPlus 9 = .ok (.getfield 13, 3) := by decide +kernel
theorem d_Bg_timesPlus_12 : decode b_Bg_timesPlus 12 = .ok (.if_icmp .ge 41, 3) := by decide +kernel
theorem d_Bg_timesPlus_15 : decode b_Bg_timesPlus 15 = .ok (.lload_n 3, 1) := by decide +kernel
theorem d_Bg_timesPlus_16 : decode b_Bg_timesPlus 16 = .ok (.aload_n 0, 1) := by decide +kernel
theorem d_Bg_timesPlus_17 : decode b_Bg_timesPlus 17 = .ok (.getfield 9, 3) := by decide +kernel
theorem d_Bg_timesPlus_20 : decode b_Bg_timesPlus 20 = .ok (.iload 5, 2) := by decide +kernel
theorem d_Bg_timesPlus_22 : decode b_Bg_timesPlus 22 = .ok (.iaload, 1) := by decide +kernel
theorem d_Bg_timesPlus_23 : decode b_Bg_timesPlus 23 = .ok (.i2l, 1) := by decide +kernel
theorem d_Bg_timesPlus_24 : decode b_Bg_timesPlus 24 = .ok (.ldc2_w 17, 3) := by decide +kernel
theorem d_Bg_timesPlus_27 : decode b_Bg_timesPlus 27 = .ok (.land, 1) := by decide +kernel
theorem d_Bg_timesPlus_28 : decode b_Bg_timesPlus 28 = .ok (.iload_n 1, 1) := by decide +kernel
theorem d_Bg_timesPlus_29 : decode b_Bg_timesPlus 29 = .ok (.i2l, 1) := by decide +kernel
theorem d_Bg_timesPlus_30 : decode b_Bg_timesPlus 30 = .ok (.lmul, 1) := by decide +kernel
theorem d_Bg_timesPlus_31 : decode b_Bg_timesPlus 31 = .ok (.ladd, 1) := by decide +kernel
theorem d_Bg_timesPlus_32 : decode b_Bg_timesPlus 32 = .ok (.lstore_n 3, 1) := by decide +kernel
theorem d_Bg_timesPlus_33 : decode b_Bg_timesPlus 33 = .ok (.aload_n 0, 1) := by decide +kernel
theorem d_Bg_timesPlus_34 : decode b_Bg_timesPlus 34 = .ok (.getfield 9, 3) := by decide +kernel
theorem d_Bg_timesPlus_37 : decode b_Bg_timesPlus 37 = .ok (.iload 5, 2) := by decide +kernel
theorem d_Bg_timesPlus_39 : decode b_Bg_timesPlus 39 = .ok (.lload_n 3, 1) := by decide +kernel
theorem d_Bg_timesPlus_40 : decode b_Bg_timesPlus 40 = .ok (.l2i, 1) := by decide +kernel
theorem d_Bg_timesPlus_41 : decode b_Bg_timesPlus 41 = .ok (.iastore, 1) := by decide +kernel
theorem d_Bg_timesPlus_42 : decode b_Bg_timesPlus 42 = .ok (.lload_n 3, 1) := by decide +kernel
theorem d_Bg_timesPlus_43 : decode b_Bg_timesPlus 43 = .ok (.bipush 32, 2) := by decide +kernel
theorem d_Bg_timesPlus_45 : decode b_Bg_timesPlus 45 = .ok (.lushr, 1) := by decide +kernel
theorem d_Bg_timesPlus_46 : decode b_Bg_timesPlus 46 = .ok (.lstore_n 3, 1) := by decide +kernel
theorem d_Bg_timesPlus_47 : decode b_Bg_timesPlus 47 = .ok (.iinc 5 1, 3) := by decide +kernel
theorem d_Bg_timesPlus_50 : decode b_Bg_timesPlus 50 = .ok (.goto (-44), 3) := by decide +kernel
theorem d_Bg_timesPlus_53 : decode b_Bg_timesPlus 53 = .ok (.lload_n 3, 1) := by decide +kernel
theorem d_Bg_timesPlus_54 : decode b_Bg_timesPlus 54 = .ok (.lconst 0, 1) := by decide +kernel
theorem d_Bg_timesPlus_55 : decode b_Bg_timesPlus 55 = .ok (.lcmp, 1) := by decide +kernel
theorem d_Bg_timesPlus_56 : decode b_Bg_timesPlus 56 = .ok (.ifCond .eq 33, 3) := by decide +kernel
theorem d_Bg_timesPlus_59 : decode b_Bg_timesPlus 59 = .ok (.aload_n 0, 1) := by decide +kernel
theorem d_Bg_timesPlus_60 : decode b_Bg_timesPlus 60 = .ok (.getfield 13, 3) := by decide +kernel
theorem d_Bg_timesPlus_63 : decode b_Bg_timesPlus 63 = .ok (.bipush 96, 2) := by decide +kernel
theorem d_Bg_timesPlus_65 : decode b_Bg_timesPlus 65 = .ok (.if_icmp .ge 24, 3) := by decide +kernel
theorem d_Bg_timesPlus_68 : decode b_Bg_timesPlus 68 = .ok (.aload_n 0, 1) := by decide +kernel
theorem d_Bg_timesPlus_69 : decode b_Bg_timesPlus 69 = .ok (.getfield 9, 3) := by decide +kernel
theorem d_Bg_timesPlus_72 : decode b_Bg_timesPlus 72 = .ok (.aload_n 0, 1) := by decide +kernel
theorem d_Bg_timesPlus_73 : decode b_Bg_timesPlus 73 = .ok (.getfield 13, 3) := by decide +kernel
theorem d_Bg_timesPlus_76 : decode b_Bg_timesPlus 76 = .ok (.lload_n 3, 1) := by decide +kernel
theorem d_Bg_timesPlus_77 : decode b_Bg_timesPlus 77 = .ok (.l2i, 1) := by decide +kernel
theorem d_Bg_timesPlus_78 : decode b_Bg_timesPlus 78 = .ok (.iastore, 1) := by decide +kernel
theorem d_Bg_timesPlus_79 : decode b_Bg_timesPlus 79 = .ok (.aload_n 0, 1) := by decide +kernel
theorem d_Bg_timesPlus_80 : decode b_Bg_timesPlus 80 = .ok (.dup, 1) := by decide +kernel
theorem d_Bg_timesPlus_81 : decode b_Bg_timesPlus 81 = .ok (.getfield 13, 3) := by decide +kernel
theorem d_Bg_timesPlus_84 : decode b_Bg_timesPlus 84 = .ok (.iconst 1, 1) := by decide +kernel
theorem d_Bg_timesPlus_85 : decode b_Bg_timesPlus 85 = .ok (.iadd, 1) := by decide +kernel
theorem d_Bg_timesPlus_86 : decode b_Bg_timesPlus 86 = .ok (.putfield 13, 3) := by decide +kernel
theorem d_Bg_timesPlus_89 : decode b_Bg_timesPlus 89 = .ok (.return_, 1) := by decide +kernel
theorem cal_Bg_timesPlus : gx_cal y_Bg_timesPlus b_Bg_timesPlus 6 none 2 := ⟨wd_519, wd_5, by decide +kernel⟩
def ww_Bg_timesPlus (g : Nat → ClassId) (o : Nat) (o_limbs : Nat) (x_o_limbs : Value) (x_o_size : Int32) (y_o_limbs : Nat → Int32) : va_W := [(o, .inr (1, [x_o_limbs, .int x_o_size])), (o_limbs, .inl (g 0, 96, .inl y_o_limbs))]
def f_Bg_timesPlus_6 : Nat → Int32 → Int64 → Int32 → Int32 → (Nat → Int32) → Option (Int32 × (Nat → Int32))
  | 0, _, _, _, _, _ => none
  | n + 1, v1, v3, v5, o_sizeq, o_limbs_cq => if o_sizeq ≤ v5 then (if v3 = (0 : Int64) then (some (o_sizeq, o_limbs_cq)) else (if (96 : Int32) ≤ o_sizeq then (some (o_sizeq, o_limbs_cq)) else (if gx_ok o_sizeq 96 = true then some (o_sizeq + (1 : Int32), upd o_limbs_cq o_sizeq.toNatClampNeg v3.toInt32) else none))) else (if gx_ok v5 96 = true then if gx_ok v5 96 = true then f_Bg_timesPlus_6 n v1 (((v3 + ((((o_limbs_cq v5.toNatClampNeg).toInt64) &&& (4294967295 : Int64)) * v1.toInt64)).toUInt64 >>> ((32 : Int32).toInt64.toUInt64 &&& Int64.toUInt64 63)).toInt64) (v5 + 1) o_sizeq (upd o_limbs_cq v5.toNatClampNeg ((v3 + ((((o_limbs_cq v5.toNatClampNeg).toInt64) &&& (4294967295 : Int64)) * v1.toInt64)).toInt32)) else none else none)
def f_Bg_timesPlus (a1 : Int32) (a2 : Int32) (o_size : Int32) (o_limbs_c : Nat → Int32) : Option (Int32 × (Nat → Int32)) := f_Bg_timesPlus_6 gx_fu a1 a2.toInt64 (0 : Int32) o_size o_limbs_c
set_option maxHeartbeats 4000000 in
set_option maxRecDepth 100000 in
theorem c_Bg_timesPlus (l : Launch) (z : State) (D : va_G) (g : Nat → ClassId) (o : Nat) (o_limbs : Nat) (o_size : Int32) (o_limbs_c : Nat → Int32) (a1 : Int32) (a2 : Int32) (r : Int32 × (Nat → Int32)) (hf : f_Bg_timesPlus a1 a2 o_size o_limbs_c = some r) : gx_Mv l z D g y_Bg_timesPlus b_Bg_timesPlus 6 ({ frames := 0, cells := 0, slots := 0, locals := 0 } : Room) [.ref o, .int a1, .int a2] (ww_Bg_timesPlus g o o_limbs (.ref o_limbs) o_size o_limbs_c) (ww_Bg_timesPlus g o o_limbs (.ref o_limbs) r.1 r.2) := by
  refine gx_go (by decide +kernel) rfl ?_
  intro p e s m below meth c ls S hr hlk hnm E hP hD hl
  have hS : va_S (va_A (ww_Bg_timesPlus g o o_limbs (.ref o_limbs) o_size o_limbs_c) s.heap.size) s.heap s.heap [] := va_S.rf
  have hl : lv_has ls 6 [(0, .ref o), (1, .int a1), (2, .int a2)] := hl
  have c_6 : ∀ n : Nat, ∀ (v1 : Int32) (v3 : Int64) (v5 : Int32) (o_sizeq : Int32) (o_limbs_cq : Nat → Int32) (ls : Array Slot) (H : Heap) (locs : List Loc), lv_has ls 6 [(0, .ref o), (1, .int v1), (3, .long v3), (5, .int v5)] → va_S (va_A (ww_Bg_timesPlus g o o_limbs (.ref o_limbs) o_size o_limbs_c) s.heap.size) s.heap H locs → va_P D vwC (ww_Bg_timesPlus g o o_limbs (.ref o_limbs) o_sizeq o_limbs_cq) H → va_D (va_A (ww_Bg_timesPlus g o o_limbs (.ref o_limbs) o_size o_limbs_c) s.heap.size) (ww_Bg_timesPlus g o o_limbs (.ref o_limbs) o_sizeq o_limbs_cq) → (f_Bg_timesPlus_6 n v1 v3 v5 o_sizeq o_limbs_cq) = some r → W p l e ({ frames := 0, cells := 0, slots := 0, locals := 0 } : Room) s m ([.ref o, .int a1, .int a2] : List Value).toArray below meth c H locs 0 0 (MQ below (gx_Qv D (ww_Bg_timesPlus g o o_limbs (.ref o_limbs) o_size o_limbs_c) (ww_Bg_timesPlus g o o_limbs (.ref o_limbs) r.1 r.2) s.heap.size) ([.ref o, .int a1, .int a2] : List Value).toArray s 0 0 (va_A (ww_Bg_timesPlus g o o_limbs (.ref o_limbs) o_size o_limbs_c) s.heap.size)) (F0 m 6 ls []) := by
    intro n
    induction n with
    | zero => intro v1 v3 v5 o_sizeq o_limbs_cq ls H locs hl hS hP hD hf; cases hf
    | succ n ih =>
      intro v1 v3 v5 o_sizeq o_limbs_cq ls H locs hl hS hP hD hf
      have hf : (if o_sizeq ≤ v5 then (if v3 = (0 : Int64) then (some (o_sizeq, o_limbs_cq)) else (if (96 : Int32) ≤ o_sizeq then (some (o_sizeq, o_limbs_cq)) else (if gx_ok o_sizeq 96 = true then some (o_sizeq + (1 : Int32), upd o_limbs_cq o_sizeq.toNatClampNeg v3.toInt32) else none))) else (if gx_ok v5 96 = true then if gx_ok v5 96 = true then f_Bg_timesPlus_6 n v1 (((v3 + ((((o_limbs_cq v5.toNatClampNeg).toInt64) &&& (4294967295 : Int64)) * v1.toInt64)).toUInt64 >>> ((32 : Int32).toInt64.toUInt64 &&& Int64.toUInt64 63)).toInt64) (v5 + 1) o_sizeq (upd o_limbs_cq v5.toNatClampNeg ((v3 + ((((o_limbs_cq v5.toNatClampNeg).toInt64) &&& (4294967295 : Int64)) * v1.toInt64)).toInt32)) else none else none)) = some r := hf
      refine lv_iload S.1 S.2.1 d_Bg_timesPlus_6 (lv_at hl 3 rfl) ?_
      refine lv_aload_n S.1 S.2.1 d_Bg_timesPlus_8 rfl (lv_at hl 0 rfl) ?_
      refine gx_gf (v := .int o_sizeq) S E hP 0 rfl rfl i_Bg 1 rfl wd_107 ⟨rfl, rfl, rfl⟩ rfl d_Bg_timesPlus_9 ?_
      refine lv_icmp_ge (tgt := 53) S.1 S.2.1 d_Bg_timesPlus_12 (by decide) (fun h => ?_) (fun h => ?_)
      ·
        have hf := gx_ifp h hf
        refine lv_lload_n S.1 S.2.1 d_Bg_timesPlus_53 rfl (lv_at hl 2 rfl) ?_
        refine lv_lconst (v := 0) S.1 S.2.1 d_Bg_timesPlus_54 (by decide) ?_
        refine W.lcmp S.1 S.2.1 d_Bg_timesPlus_55 ?_
        refine lv_if_eq (tgt := 89) S.1 S.2.1 d_Bg_timesPlus_56 (by decide) (fun h => ?_) (fun h => ?_)
        ·
          have h : v3 = (0 : Int64) := (lg_cmp_eq _ _).mp h
          have hf := gx_ifp h hf
          obtain rfl := Option.some.inj hf
          exact gx_rv S hr hlk hS hP hD d_Bg_timesPlus_89
        ·
          have h : ¬ v3 = (0 : Int64) := fun q => h ((lg_cmp_eq _ _).mpr q)
          have hf := gx_ifn h hf
          refine lv_aload_n S.1 S.2.1 d_Bg_timesPlus_59 rfl (lv_at hl 0 rfl) ?_
          refine gx_gf (v := .int o_sizeq) S E hP 0 rfl rfl i_Bg 1 rfl wd_107 ⟨rfl, rfl, rfl⟩ rfl d_Bg_timesPlus_60 ?_
          refine lv_bipush (v := 96) S.1 S.2.1 d_Bg_timesPlus_63 (by decide) ?_
          refine lv_icmp_ge (tgt := 89) S.1 S.2.1 d_Bg_timesPlus_65 (by decide) (fun h => ?_) (fun h => ?_)
          ·
            have hf := gx_ifp h hf
            obtain rfl := Option.some.inj hf
            exact gx_rv S hr hlk hS hP hD d_Bg_timesPlus_89
          ·
            have hf := gx_ifn h hf
            refine lv_aload_n S.1 S.2.1 d_Bg_timesPlus_68 rfl (lv_at hl 0 rfl) ?_
            refine gx_gf (v := .ref o_limbs) S E hP 0 rfl rfl i_Bg 0 rfl wd_106 ⟨rfl, rfl, rfl⟩ rfl d_Bg_timesPlus_69 ?_
            refine lv_aload_n S.1 S.2.1 d_Bg_timesPlus_72 rfl (lv_at hl 0 rfl) ?_
            refine gx_gf (v := .int o_sizeq) S E hP 0 rfl rfl i_Bg 1 rfl wd_107 ⟨rfl, rfl, rfl⟩ rfl d_Bg_timesPlus_73 ?_
            refine lv_lload_n S.1 S.2.1 d_Bg_timesPlus_76 rfl (lv_at hl 2 rfl) ?_
            refine lv_l2i S.1 S.2.1 d_Bg_timesPlus_77 rfl ?_
            obtain ⟨hin, hf⟩ := gx_chk hf
            refine gx_iast (ws2 := (ww_Bg_timesPlus g o o_limbs (.ref o_limbs) o_sizeq (upd o_limbs_cq o_sizeq.toNatClampNeg v3.toInt32))) S E hS hP hD 1 0 rfl rfl hin d_Bg_timesPlus_78 rfl (fun H locs hS hP hD => ?_)
            refine lv_aload_n S.1 S.2.1 d_Bg_timesPlus_79 rfl (lv_at hl 0 rfl) ?_
            refine lv_dup S.1 S.2.1 d_Bg_timesPlus_80 rfl ?_
            refine gx_gf (v := .int o_sizeq) S E hP 0 rfl rfl i_Bg 1 rfl wd_107 ⟨rfl, rfl, rfl⟩ rfl d_Bg_timesPlus_81 ?_
            refine lv_iconst (v := 1) S.1 S.2.1 d_Bg_timesPlus_84 (by decide) ?_
            refine lv_iadd S.1 S.2.1 d_Bg_timesPlus_85 ?_
            refine gx_pf (v := .int (o_sizeq + (1 : Int32))) (ws2 := (ww_Bg_timesPlus g o o_limbs (.ref o_limbs) (o_sizeq + (1 : Int32)) (upd o_limbs_cq o_sizeq.toNatClampNeg v3.toInt32))) S E hS hP hD 0 rfl rfl i_Bg k_Bg n_Bg 1 rfl wd_107 ⟨rfl, rfl, rfl, rfl⟩ rfl rfl rfl d_Bg_timesPlus_86 rfl (fun H locs hS hP hD => ?_)
            obtain rfl := Option.some.inj hf
            exact gx_rv S hr hlk hS hP hD d_Bg_timesPlus_89
      ·
        have hf := gx_ifn h hf
        refine lv_lload_n S.1 S.2.1 d_Bg_timesPlus_15 rfl (lv_at hl 2 rfl) ?_
        refine lv_aload_n S.1 S.2.1 d_Bg_timesPlus_16 rfl (lv_at hl 0 rfl) ?_
        refine gx_gf (v := .ref o_limbs) S E hP 0 rfl rfl i_Bg 0 rfl wd_106 ⟨rfl, rfl, rfl⟩ rfl d_Bg_timesPlus_17 ?_
        refine lv_iload S.1 S.2.1 d_Bg_timesPlus_20 (lv_at hl 3 rfl) ?_
        obtain ⟨hin, hf⟩ := gx_chk hf
        refine va_iald S.1 S.2.1 E.1.1 hP 1 0 rfl rfl (gx_okv hin) d_Bg_timesPlus_22 ?_
        refine lv_i2l S.1 S.2.1 d_Bg_timesPlus_23 rfl ?_
        refine lv_ldc2 (v := 4294967295) S.1 S.2.1 S.2.2.2.1 (S.2.2.2.2 _ wd_520) d_Bg_timesPlus_24 ?_
        refine lv_land S.1 S.2.1 d_Bg_timesPlus_27 ?_
        refine lv_iload_n S.1 S.2.1 d_Bg_timesPlus_28 rfl (lv_at hl 1 rfl) ?_
        refine lv_i2l S.1 S.2.1 d_Bg_timesPlus_29 rfl ?_
        refine lv_lmul S.1 S.2.1 d_Bg_timesPlus_30 ?_
        refine lv_ladd S.1 S.2.1 d_Bg_timesPlus_31 ?_
        refine lv_lstore_n (lv' := [(3, .long (v3 + ((((o_limbs_cq v5.toNatClampNeg).toInt64) &&& (4294967295 : Int64)) * v1.toInt64))), (0, .ref o), (1, .int v1), (5, .int v5)]) S.1 S.2.1 d_Bg_timesPlus_32 rfl hl (by decide) rfl (fun ls hl => ?_)
        refine lv_aload_n S.1 S.2.1 d_Bg_timesPlus_33 rfl (lv_at hl 1 rfl) ?_
        refine gx_gf (v := .ref o_limbs) S E hP 0 rfl rfl i_Bg 0 rfl wd_106 ⟨rfl, rfl, rfl⟩ rfl d_Bg_timesPlus_34 ?_
        refine lv_iload S.1 S.2.1 d_Bg_timesPlus_37 (lv_at hl 3 rfl) ?_
        refine lv_lload_n S.1 S.2.1 d_Bg_timesPlus_39 rfl (lv_at hl 0 rfl) ?_
        refine lv_l2i S.1 S.2.1 d_Bg_timesPlus_40 rfl ?_
        obtain ⟨hin, hf⟩ := gx_chk hf
        refine gx_iast (ws2 := (ww_Bg_timesPlus g o o_limbs (.ref o_limbs) o_sizeq (upd o_limbs_cq v5.toNatClampNeg ((v3 + ((((o_limbs_cq v5.toNatClampNeg).toInt64) &&& (4294967295 : Int64)) * v1.toInt64)).toInt32)))) S E hS hP hD 1 0 rfl rfl hin d_Bg_timesPlus_41 rfl (fun H locs hS hP hD => ?_)
        refine lv_lload_n S.1 S.2.1 d_Bg_timesPlus_42 rfl (lv_at hl 0 rfl) ?_
        refine lv_bipush (v := 32) S.1 S.2.1 d_Bg_timesPlus_43 (by decide) ?_
        refine lv_lushr S.1 S.2.1 d_Bg_timesPlus_45 rfl ?_
        refine lv_lstore_n (lv' := [(3, .long (((v3 + ((((o_limbs_cq v5.toNatClampNeg).toInt64) &&& (4294967295 : Int64)) * v1.toInt64)).toUInt64 >>> ((32 : Int32).toInt64.toUInt64 &&& Int64.toUInt64 63)).toInt64)), (0, .ref o), (1, .int v1), (5, .int v5)]) S.1 S.2.1 d_Bg_timesPlus_46 rfl hl (by decide) rfl (fun ls hl => ?_)
        refine lv_iinc (v := v5 + 1) (lv' := [(5, .int (v5 + 1)), (3, .long (((v3 + ((((o_limbs_cq v5.toNatClampNeg).toInt64) &&& (4294967295 : Int64)) * v1.toInt64)).toUInt64 >>> ((32 : Int32).toInt64.toUInt64 &&& Int64.toUInt64 63)).toInt64)), (0, .ref o), (1, .int v1)]) S.1 S.2.1 d_Bg_timesPlus_47 hl (k := 3) rfl rfl (by decide) rfl (fun ls hl => ?_)
        refine lv_goto (tgt := 6) S.1 S.2.1 d_Bg_timesPlus_50 (by decide) ?_
        exact ih v1 (((v3 + ((((o_limbs_cq v5.toNatClampNeg).toInt64) &&& (4294967295 : Int64)) * v1.toInt64)).toUInt64 >>> ((32 : Int32).toInt64.toUInt64 &&& Int64.toUInt64 63)).toInt64) (v5 + 1) o_sizeq (upd o_limbs_cq v5.toNatClampNeg ((v3 + ((((o_limbs_cq v5.toNatClampNeg).toInt64) &&& (4294967295 : Int64)) * v1.toInt64)).toInt32)) ls _ _ (lv_sub hl [2, 3, 1, 0] rfl) hS hP hD hf
  have hf : (f_Bg_timesPlus_6 gx_fu a1 a2.toInt64 (0 : Int32) o_size o_limbs_c) = some r := hf
  refine lv_iload_n S.1 S.2.1 d_Bg_timesPlus_0 rfl (lv_at hl 2 rfl) ?_
  refine lv_i2l S.1 S.2.1 d_Bg_timesPlus_1 rfl ?_
  refine lv_lstore_n (lv' := [(3, .long a2.toInt64), (0, .ref o), (1, .int a1), (2, .int a2)]) S.1 S.2.1 d_Bg_timesPlus_2 rfl hl (by decide) rfl (fun ls hl => ?_)
  refine lv_iconst (v := 0) S.1 S.2.1 d_Bg_timesPlus_3 (by decide) ?_
  refine lv_istore (lv' := [(5, .int (0 : Int32)), (3, .long a2.toInt64), (0, .ref o), (1, .int a1), (2, .int a2)]) S.1 S.2.1 d_Bg_timesPlus_4 hl (by decide) rfl (fun ls hl => ?_)
  exact c_6 gx_fu a1 a2.toInt64 (0 : Int32) o_size o_limbs_c ls _ _ (lv_sub hl [2, 3, 1, 0] rfl) hS hP hD hf
theorem d_Bg_timesFives_0 : decode b_Bg_timesFives 0 = .ok (.iload_n 1, 1) := by decide +kernel
theorem d_Bg_timesFives_1 : decode b_Bg_timesFives 1 = .ok (.istore_n 2, 1) := by decide +kernel
theorem d_Bg_timesFives_2 : decode b_Bg_timesFives 2 = .ok (.iload_n 2, 1) := by decide +kernel
theorem d_Bg_timesFives_3 : decode b_Bg_timesFives 3 = .ok (.bipush 13, 2) := by decide +kernel
theorem d_Bg_timesFives_5 : decode b_Bg_timesFives 5 = .ok (.if_icmp .le 20, 3) := by decide +kernel
theorem d_Bg_timesFives_8 : decode b_Bg_timesFives 8 = .ok (.aload_n 0, 1) := by decide +kernel
theorem d_Bg_timesFives_9 : decode b_Bg_timesFives 9 = .ok (.getstatic 45, 3) := by decide +kernel
theorem d_Bg_timesFives_12 : decode b_Bg_timesFives 12 = .ok (.bipush 13, 2) := by decide +kernel
theorem d_Bg_timesFives_14 : decode b_Bg_timesFives 14 = .ok (.iaload, 1) := by decide +kernel
theorem d_Bg_timesFives_15 : decode b_Bg_timesFives 15 = .ok (.iconst 0, 1) := by decide +kernel
theorem d_Bg_timesFives_16 : decode b_Bg_timesFives 16 = .ok (.invokevirtual 48, 3) := by decide +kernel
theorem d_Bg_timesFives_19 : decode b_Bg_timesFives 19 = .ok (.iinc 2 (-13), 3) := by decide +kernel
theorem d_Bg_timesFives_22 : decode b_Bg_timesFives 22 = .ok (.goto (-20), 3) := by decide +kernel
theorem d_Bg_timesFives_25 : decode b_Bg_timesFives 25 = .ok (.iload_n 2, 1) := by decide +kernel
theorem d_Bg_timesFives_26 : decode b_Bg_timesFives 26 = .ok (.ifCond .le 13, 3) := by decide +kernel
theorem d_Bg_timesFives_29 : decode b_Bg_timesFives 29 = .ok (.aload_n 0, 1) := by decide +kernel
theorem d_Bg_timesFives_30 : decode b_Bg_timesFives 30 = .ok (.getstatic 45, 3) := by decide +kernel
theorem d_Bg_timesFives_33 : decode b_Bg_timesFives 33 = .ok (.iload_n 2, 1) := by decide +kernel
theorem d_Bg_timesFives_34 : decode b_Bg_timesFives 34 = .ok (.iaload, 1) := by decide +kernel
theorem d_Bg_timesFives_35 : decode b_Bg_timesFives 35 = .ok (.iconst 0, 1) := by decide +kernel
theorem d_Bg_timesFives_36 : decode b_Bg_timesFives 36 = .ok (.invokevirtual 48, 3) := by decide +kernel
theorem d_Bg_timesFives_39 : decode b_Bg_timesFives 39 = .ok (.return_, 1) := by decide +kernel
theorem cal_Bg_timesFives : gx_cal y_Bg_timesFives b_Bg_timesFives 3 none 1 := ⟨wd_513, wd_5, by decide +kernel⟩
def ww_Bg_timesFives (g : Nat → ClassId) (o : Nat) (o_limbs : Nat) (x_o_limbs : Value) (x_o_size : Int32) (y_o_limbs : Nat → Int32) : va_W := [(o, .inr (1, [x_o_limbs, .int x_o_size])), (o_limbs, .inl (g 0, 96, .inl y_o_limbs))]
def f_Bg_timesFives_2 : Nat → Int32 → Int32 → (Nat → Int32) → Option (Int32 × (Nat → Int32))
  | 0, _, _, _ => none
  | n + 1, v2, o_sizeq, o_limbs_cq => if v2 ≤ (13 : Int32) then (if v2 ≤ 0 then (some (o_sizeq, o_limbs_cq)) else (if gx_ok v2 14 = true then (f_Bg_timesPlus (gl_five.getD v2.toNatClampNeg 0) (0 : Int32) o_sizeq o_limbs_cq).bind fun u36 => some (u36.1, u36.2) else none)) else (if gx_ok (13 : Int32) 14 = true then (f_Bg_timesPlus (gl_five.getD (13 : Int32).toNatClampNeg 0) (0 : Int32) o_sizeq o_limbs_cq).bind fun u16 => f_Bg_timesFives_2 n (v2 + (-13)) u16.1 u16.2 else none)
def f_Bg_timesFives (a1 : Int32) (o_size : Int32) (o_limbs_c : Nat → Int32) : Option (Int32 × (Nat → Int32)) := f_Bg_timesFives_2 gx_fu a1 o_size o_limbs_c
set_option maxHeartbeats 4000000 in
set_option maxRecDepth 100000 in
theorem c_Bg_timesFives (l : Launch) (z : State) (D : va_G) (g : Nat → ClassId) (o : Nat) (o_limbs : Nat) (o_size : Int32) (o_limbs_c : Nat → Int32) (a1 : Int32) (r : Int32 × (Nat → Int32)) (hf : f_Bg_timesFives a1 o_size o_limbs_c = some r) : gx_Mv l z D g y_Bg_timesFives b_Bg_timesFives 3 ({ frames := 1, cells := 0, slots := 0, locals := 25 } : Room) [.ref o, .int a1] (ww_Bg_timesFives g o o_limbs (.ref o_limbs) o_size o_limbs_c) (ww_Bg_timesFives g o o_limbs (.ref o_limbs) r.1 r.2) := by
  refine gx_go (by decide +kernel) rfl ?_
  intro p e s m below meth c ls S hr hlk hnm E hP hD hl
  have hS : va_S (va_A (ww_Bg_timesFives g o o_limbs (.ref o_limbs) o_size o_limbs_c) s.heap.size) s.heap s.heap [] := va_S.rf
  have hl : lv_has ls 3 [(0, .ref o), (1, .int a1)] := hl
  have c_2 : ∀ n : Nat, ∀ (v2 : Int32) (o_sizeq : Int32) (o_limbs_cq : Nat → Int32) (ls : Array Slot) (H : Heap) (locs : List Loc), lv_has ls 3 [(0, .ref o), (2, .int v2)] → va_S (va_A (ww_Bg_timesFives g o o_limbs (.ref o_limbs) o_size o_limbs_c) s.heap.size) s.heap H locs → va_P D vwC (ww_Bg_timesFives g o o_limbs (.ref o_limbs) o_sizeq o_limbs_cq) H → va_D (va_A (ww_Bg_timesFives g o o_limbs (.ref o_limbs) o_size o_limbs_c) s.heap.size) (ww_Bg_timesFives g o o_limbs (.ref o_limbs) o_sizeq o_limbs_cq) → (f_Bg_timesFives_2 n v2 o_sizeq o_limbs_cq) = some r → W p l e ({ frames := 1, cells := 0, slots := 0, locals := 25 } : Room) s m ([.ref o, .int a1] : List Value).toArray below meth c H locs 0 0 (MQ below (gx_Qv D (ww_Bg_timesFives g o o_limbs (.ref o_limbs) o_size o_limbs_c) (ww_Bg_timesFives g o o_limbs (.ref o_limbs) r.1 r.2) s.heap.size) ([.ref o, .int a1] : List Value).toArray s 0 0 (va_A (ww_Bg_timesFives g o o_limbs (.ref o_limbs) o_size o_limbs_c) s.heap.size)) (F0 m 2 ls []) := by
    intro n
    induction n with
    | zero => intro v2 o_sizeq o_limbs_cq ls H locs hl hS hP hD hf; cases hf
    | succ n ih =>
      intro v2 o_sizeq o_limbs_cq ls H locs hl hS hP hD hf
      have hf : (if v2 ≤ (13 : Int32) then (if v2 ≤ 0 then (some (o_sizeq, o_limbs_cq)) else (if gx_ok v2 14 = true then (f_Bg_timesPlus (gl_five.getD v2.toNatClampNeg 0) (0 : Int32) o_sizeq o_limbs_cq).bind fun u36 => some (u36.1, u36.2) else none)) else (if gx_ok (13 : Int32) 14 = true then (f_Bg_timesPlus (gl_five.getD (13 : Int32).toNatClampNeg 0) (0 : Int32) o_sizeq o_limbs_cq).bind fun u16 => f_Bg_timesFives_2 n (v2 + (-13)) u16.1 u16.2 else none)) = some r := hf
      refine lv_iload_n S.1 S.2.1 d_Bg_timesFives_2 rfl (lv_at hl 1 rfl) ?_
      refine lv_bipush (v := 13) S.1 S.2.1 d_Bg_timesFives_3 (by decide) ?_
      refine lv_icmp_le (tgt := 25) S.1 S.2.1 d_Bg_timesFives_5 (by decide) (fun h => ?_) (fun h => ?_)
      ·
        have hf := gx_ifp h hf
        refine lv_iload_n S.1 S.2.1 d_Bg_timesFives_25 rfl (lv_at hl 1 rfl) ?_
        refine lv_if_le (tgt := 39) S.1 S.2.1 d_Bg_timesFives_26 (by decide) (fun h => ?_) (fun h => ?_)
        ·
          have hf := gx_ifp h hf
          obtain rfl := Option.some.inj hf
          exact gx_rv S hr hlk hS hP hD d_Bg_timesFives_39
        ·
          have hf := gx_ifn h hf
          refine lv_aload_n S.1 S.2.1 d_Bg_timesFives_29 rfl (lv_at hl 0 rfl) ?_
          refine va_gets S.1 S.2.1 (gx_five E) hS S.2.2.2.1 (S.2.2.2.2 _ wd_514) (fun _ h => h) d_Bg_timesFives_30 ?_
          refine lv_iload_n S.1 S.2.1 d_Bg_timesFives_33 rfl (lv_at hl 1 rfl) ?_
          obtain ⟨hin, hf⟩ := gx_chk hf
          refine va_ti (v := .int (gl_five.getD v2.toNatClampNeg 0)) S.1 S.2.1 (gx_fiveT E) hS (gx_okv hin) rfl d_Bg_timesFives_34 ?_
          refine lv_iconst (v := 0) S.1 S.2.1 d_Bg_timesFives_35 (by decide) ?_
          obtain ⟨u36, hc36, hf⟩ := gx_bnd hf
          refine gx_Vv (ws2 := (ww_Bg_timesFives g o o_limbs (.ref o_limbs) u36.1 u36.2)) S E hS hP hD (c_Bg_timesPlus l z D g o o_limbs o_sizeq o_limbs_cq (gl_five.getD v2.toNatClampNeg 0) (0 : Int32) u36 hc36) cal_Bg_timesPlus wd_517 wd_518 wd_516 rfl [0, 1] rfl rfl rfl (gx_rc E hP 0 rfl rfl) rfl hl.1 rfl d_Bg_timesFives_36 ⟨Nat.zero_le _, Nat.zero_le _⟩ rfl (fun H locs hS hP hD => ?_)
          obtain rfl := Option.some.inj hf
          exact gx_rv S hr hlk hS hP hD d_Bg_timesFives_39
      ·
        have hf := gx_ifn h hf
        refine lv_aload_n S.1 S.2.1 d_Bg_timesFives_8 rfl (lv_at hl 0 rfl) ?_
        refine va_gets S.1 S.2.1 (gx_five E) hS S.2.2.2.1 (S.2.2.2.2 _ wd_514) (fun _ h => h) d_Bg_timesFives_9 ?_
        refine lv_bipush (v := 13) S.1 S.2.1 d_Bg_timesFives_12 (by decide) ?_
        obtain ⟨hin, hf⟩ := gx_chk hf
        refine va_ti (v := .int (gl_five.getD (13 : Int32).toNatClampNeg 0)) S.1 S.2.1 (gx_fiveT E) hS (gx_okv hin) rfl d_Bg_timesFives_14 ?_
        refine lv_iconst (v := 0) S.1 S.2.1 d_Bg_timesFives_15 (by decide) ?_
        obtain ⟨u16, hc16, hf⟩ := gx_bnd hf
        refine gx_Vv (ws2 := (ww_Bg_timesFives g o o_limbs (.ref o_limbs) u16.1 u16.2)) S E hS hP hD (c_Bg_timesPlus l z D g o o_limbs o_sizeq o_limbs_cq (gl_five.getD (13 : Int32).toNatClampNeg 0) (0 : Int32) u16 hc16) cal_Bg_timesPlus wd_517 wd_518 wd_516 rfl [0, 1] rfl rfl rfl (gx_rc E hP 0 rfl rfl) rfl hl.1 rfl d_Bg_timesFives_16 ⟨Nat.zero_le _, Nat.zero_le _⟩ rfl (fun H locs hS hP hD => ?_)
        refine lv_iinc (v := v2 + (-13)) (lv' := [(2, .int (v2 + (-13))), (0, .ref o)]) S.1 S.2.1 d_Bg_timesFives_19 hl (k := 1) rfl rfl (by decide) rfl (fun ls hl => ?_)
        refine lv_goto (tgt := 2) S.1 S.2.1 d_Bg_timesFives_22 (by decide) ?_
        exact ih (v2 + (-13)) u16.1 u16.2 ls _ _ (lv_sub hl [1, 0] rfl) hS hP hD hf
  have hf : (f_Bg_timesFives_2 gx_fu a1 o_size o_limbs_c) = some r := hf
  refine lv_iload_n S.1 S.2.1 d_Bg_timesFives_0 rfl (lv_at hl 1 rfl) ?_
  refine lv_istore_n (lv' := [(2, .int a1), (0, .ref o), (1, .int a1)]) S.1 S.2.1 d_Bg_timesFives_1 rfl hl (by decide) rfl (fun ls hl => ?_)
  exact c_2 gx_fu a1 o_size o_limbs_c ls _ _ (lv_sub hl [1, 0] rfl) hS hP hD hf
theorem d_Bg_shiftLeft_0 : decode b_Bg_shiftLeft 0 = .ok (.iload_n 1, 1) := by decide +kernel
theorem d_Bg_shiftLeft_1 : decode b_Bg_shiftLeft 1 = .ok (.ifCond .gt 4, 3) := by decide +kernel
theorem d_Bg_shiftLeft_4 : decode b_Bg_shiftLeft 4 = .ok (.return_, 1) := by decide +kernel
theorem d_Bg_shiftLeft_5 : decode b_Bg_shiftLeft 5 = .ok (.iload_n 1, 1) := by decide +kernel
theorem d_Bg_shiftLeft_6 : decode b_Bg_shiftLeft 6 = .ok (.iconst 5, 1) := by decide +kernel
theorem d_Bg_shiftLeft_7 : decode b_Bg_shiftLeft 7 = .ok (.ishr, 1) := by decide +kernel
theorem d_Bg_shiftLeft_8 : decode b_Bg_shiftLeft 8 = .ok (.istore_n 2, 1) := by decide +kernel
theorem d_Bg_shiftLeft_9 : decode b_Bg_shiftLeft 9 = .ok (.iload_n 1, 1) := by decide +kernel
theorem d_Bg_shiftLeft_10 : decode b_Bg_shiftLeft 10 = .ok (.bipush 31, 2) := by decide +kernel
theorem d_Bg_shiftLeft_12 : decode b_Bg_shiftLeft 12 = .ok (.iand, 1) := by decide +kernel
theorem d_Bg_shiftLeft_13 : decode b_Bg_shiftLeft 13 = .ok (.istore_n 3, 1) := by decide +kernel
theorem d_Bg_shiftLeft_14 : decode b_Bg_shiftLeft 14 = .ok (.aload_n 0, 1) := by decide +kernel
theorem d_Bg_shiftLeft_15 : decode b_Bg_shiftLeft 15 = .ok (.getfield 13, 3) := by decide +kernel
theorem d_Bg_shiftLeft_18 : decode b_Bg_shiftLeft 18 = .ok (.iload_n 2, 1) := by decide +kernel
theorem d_Bg_shiftLeft_19 : decode b_Bg_shiftLeft 19 = .ok (.iadd, 1) := by decide +kernel
theorem d_Bg_shiftLeft_20 : decode b_Bg_shiftLeft 20 = .ok (.iconst 1, 1) := by decide +kernel
theorem d_Bg_shiftLeft_21 : decode b_Bg_shiftLeft 21 = .ok (.iadd, 1) := by decide +kernel
theorem d_Bg_shiftLeft_22 : decode b_Bg_shiftLeft 22 = .ok (.bipush 96, 2) := by decide +kernel
theorem d_Bg_shiftLeft_24 : decode b_Bg_shiftLeft 24 = .ok (.invokestatic 52, 3) := by decide +kernel
theorem d_Bg_shiftLeft_27 : decode b_Bg_shiftLeft 27 = .ok (.istore 4, 2) := by decide +kernel
theorem d_Bg_shiftLeft_29 : decode b_Bg_shiftLeft 29 = .ok (.iload 4, 2) := by decide +kernel
theorem d_Bg_shiftLeft_31 : decode b_Bg_shiftLeft 31 = .ok (.iconst 1, 1) := by decide +kernel
theorem d_Bg_shiftLeft_32 : decode b_Bg_shiftLeft 32 = .ok (.isub, 1) := by decide +kernel
theorem d_Bg_shiftLeft_33 : decode b_Bg_shiftLeft 33 = .ok (.istore 5, 2) := by decide +kernel
theorem d_Bg_shiftLeft_35 : decode b_Bg_shiftLeft 35 = .ok (.iload 5, 2) := by decide +kernel
theorem d_Bg_shiftLeft_37 : decode b_Bg_shiftLeft 37 = .ok (.ifCond .lt 48, 3) := by decide +kernel
theorem d_Bg_shiftLeft_40 : decode b_Bg_shiftLeft 40 = .ok (.aload_n 0, 1) := by decide +kernel
theorem d_Bg_shiftLeft_41 : decode b_Bg_shiftLeft 41 = .ok (.iload 5, 2) := by decide +kernel
theorem d_Bg_shiftLeft_43 : decode b_Bg_shiftLeft 43 = .ok (.iload_n 2, 1) := by decide +kernel
theorem d_Bg_shiftLeft_44 : decode b_Bg_shiftLeft 44 = .ok (.isub, 1) := by decide +kernel
theorem d_Bg_shiftLeft_45 : decode b_Bg_shiftLeft 45 = .ok (.invokevirtual 58, 3) := by decide +kernel
theorem d_Bg_shiftLeft_48 : decode b_Bg_shiftLeft 48 = .ok (.bipush 32, 2) := by decide +kernel
theorem d_Bg_shiftLeft_50 : decode b_Bg_shiftLeft 50 = .ok (.lshl, 1) := by decide +kernel
theorem d_Bg_shiftLeft_51 : decode b_Bg_shiftLeft 51 = .ok (.aload_n 0, 1) := by decide +kernel
theorem d_Bg_shiftLeft_52 : decode b_Bg_shiftLeft 52 = .ok (.iload 5, 2) := by decide +kernel
theorem d_Bg_shiftLeft_54 : decode b_Bg_shiftLeft 54 = .ok (.iload_n 2, 1) := by decide +kernel
theorem d_Bg_shiftLeft_55 : decode b_Bg_shiftLeft 55 = .ok (.isub, 1) := by decide +kernel
theorem d_Bg_shiftLeft_56 : decode b_Bg_shiftLeft 56 = .ok (.iconst 1, 1) := by decide +kernel
theorem d_Bg_shiftLeft_57 : decode b_Bg_shiftLeft 57 = .ok (.isub, 1) := by decide +kernel
theorem d_Bg_shiftLeft_58 : decode b_Bg_shiftLeft 58 = .ok (.invokevirtual 58, 3) := by decide +kernel
theorem d_Bg_shiftLeft_61 : decode b_Bg_shiftLeft 61 = .ok (.lor, 1) := by decide +kernel
theorem d_Bg_shiftLeft_62 : decode b_Bg_shiftLeft 62 = .ok (.lstore 6, 2) := by decide +kernel
theorem d_Bg_shiftLeft_64 : decode b_Bg_shiftLeft 64 = .ok (.aload_n 0, 1) := by decide +kernel
theorem d_Bg_shiftLeft_65 : decode b_Bg_shiftLeft 65 = .ok (.getfield 9, 3) := by decide +kernel
theorem d_Bg_shiftLeft_68 : decode b_Bg_shiftLeft 68 = .ok (.iload 5, 2) := by decide +kernel
theorem d_Bg_shiftLeft_70 : decode b_Bg_shiftLeft 70 = .ok (.lload 6, 2) := by decide +kernel
theorem d_Bg_shiftLeft_72 : decode b_Bg_shiftLeft 72 = .ok (.bipush 32, 2) := by decide +kernel
theorem d_Bg_shiftLeft_74 : decode b_Bg_shiftLeft 74 = .ok (.iload_n 3, 1) := by decide +kernel
theorem d_Bg_shiftLeft_75 : decode b_Bg_shiftLeft 75 = .ok (.isub, 1) := by decide +kernel
theorem d_Bg_shiftLeft_76 : decode b_Bg_shiftLeft 76 = .ok (.lushr, 1) := by decide +kernel
theorem d_Bg_shiftLeft_77 : decode b_Bg_shiftLeft 77 = .ok (.l2i, 1) := by decide +kernel
theorem d_Bg_shiftLeft_78 : decode b_Bg_shiftLeft 78 = .ok (.iastore, 1) := by decide +kernel
theorem d_Bg_shiftLeft_79 : decode b_Bg_shiftLeft 79 = .ok (.iinc 5 (-1), 3) := by decide +kernel
theorem d_Bg_shiftLeft_82 : decode b_Bg_shiftLeft 82 = .ok (.goto (-47), 3) := by decide +kernel
theorem d_Bg_shiftLeft_85 : decode b_Bg_shiftLeft 85 = .ok (.aload_n 0, 1) := by decide +kernel
theorem d_Bg_shiftLeft_86 : decode b_Bg_shiftLeft 86 = .ok (.iload 4, 2) := by decide +kernel
theorem d_Bg_shiftLeft_88 : decode b_Bg_shiftLeft 88 = .ok (.putfield 13, 3) := by decide +kernel
theorem d_Bg_shiftLeft_91 : decode b_Bg_shiftLeft 91 = .ok (.aload_n 0, 1) := by decide +kernel
theorem d_Bg_shiftLeft_92 : decode b_Bg_shiftLeft 92 = .ok (.invokevirtual 25, 3) := by decide +kernel
theorem d_Bg_shiftLeft_95 : decode b_Bg_shiftLeft 95 = .ok (.return_, 1) := by decide +kernel
theorem cal_Bg_shiftLeft : gx_cal y_Bg_shiftLeft b_Bg_shiftLeft 8 none 1 := ⟨wd_524, wd_5, by decide +kernel⟩
def ww_Bg_shiftLeft (g : Nat → ClassId) (o : Nat) (o_limbs : Nat) (x_o_limbs : Value) (x_o_size : Int32) (y_o_limbs : Nat → Int32) : va_W := [(o, .inr (1, [x_o_limbs, .int x_o_size])), (o_limbs, .inl (g 0, 96, .inl y_o_limbs))]
def f_Bg_shiftLeft_35 : Nat → Int32 → Int32 → Int32 → Int32 → Int32 → (Nat → Int32) → Option (Int32 × (Nat → Int32))
  | 0, _, _, _, _, _, _ => none
  | n + 1, v2, v3, v4, v5, o_sizeq, o_limbs_cq => if v5 < 0 then ((f_Bg_trim v4 o_limbs_cq).bind fun u92 => some (u92, o_limbs_cq)) else ((f_Bg_limb (v5 - v2) o_sizeq o_limbs_cq).bind fun u45 => (f_Bg_limb ((v5 - v2) - (1 : Int32)) o_sizeq o_limbs_cq).bind fun u58 => if gx_ok v5 96 = true then f_Bg_shiftLeft_35 n v2 v3 v4 (v5 + (-1)) o_sizeq (upd o_limbs_cq v5.toNatClampNeg (((((u45 <<< ((32 : Int32).toInt64 &&& 63)) ||| u58).toUInt64 >>> (((32 : Int32) - v3).toInt64.toUInt64 &&& Int64.toUInt64 63)).toInt64).toInt32)) else none)
def f_Bg_shiftLeft (a1 : Int32) (o_size : Int32) (o_limbs_c : Nat → Int32) : Option (Int32 × (Nat → Int32)) := if 0 < a1 then ((f_JMath_min ((o_size + (a1 >>> ((5 : Int32) &&& 31))) + (1 : Int32)) (96 : Int32)).bind fun u24 => f_Bg_shiftLeft_35 gx_fu (a1 >>> ((5 : Int32) &&& 31)) (a1 &&& (31 : Int32)) u24 (u24 - (1 : Int32)) o_size o_limbs_c) else (some (o_size, o_limbs_c))
set_option maxHeartbeats 4000000 in
set_option maxRecDepth 100000 in
theorem c_Bg_shiftLeft (l : Launch) (z : State) (D : va_G) (g : Nat → ClassId) (o : Nat) (o_limbs : Nat) (o_size : Int32) (o_limbs_c : Nat → Int32) (a1 : Int32) (r : Int32 × (Nat → Int32)) (hf : f_Bg_shiftLeft a1 o_size o_limbs_c = some r) : gx_Mv l z D g y_Bg_shiftLeft b_Bg_shiftLeft 8 ({ frames := 1, cells := 0, slots := 0, locals := 21 } : Room) [.ref o, .int a1] (ww_Bg_shiftLeft g o o_limbs (.ref o_limbs) o_size o_limbs_c) (ww_Bg_shiftLeft g o o_limbs (.ref o_limbs) r.1 r.2) := by
  refine gx_go (by decide +kernel) rfl ?_
  intro p e s m below meth c ls S hr hlk hnm E hP hD hl
  have hS : va_S (va_A (ww_Bg_shiftLeft g o o_limbs (.ref o_limbs) o_size o_limbs_c) s.heap.size) s.heap s.heap [] := va_S.rf
  have hl : lv_has ls 8 [(0, .ref o), (1, .int a1)] := hl
  have c_35 : ∀ n : Nat, ∀ (v2 : Int32) (v3 : Int32) (v4 : Int32) (v5 : Int32) (o_sizeq : Int32) (o_limbs_cq : Nat → Int32) (ls : Array Slot) (H : Heap) (locs : List Loc), lv_has ls 8 [(0, .ref o), (2, .int v2), (3, .int v3), (4, .int v4), (5, .int v5)] → va_S (va_A (ww_Bg_shiftLeft g o o_limbs (.ref o_limbs) o_size o_limbs_c) s.heap.size) s.heap H locs → va_P D vwC (ww_Bg_shiftLeft g o o_limbs (.ref o_limbs) o_sizeq o_limbs_cq) H → va_D (va_A (ww_Bg_shiftLeft g o o_limbs (.ref o_limbs) o_size o_limbs_c) s.heap.size) (ww_Bg_shiftLeft g o o_limbs (.ref o_limbs) o_sizeq o_limbs_cq) → (f_Bg_shiftLeft_35 n v2 v3 v4 v5 o_sizeq o_limbs_cq) = some r → W p l e ({ frames := 1, cells := 0, slots := 0, locals := 21 } : Room) s m ([.ref o, .int a1] : List Value).toArray below meth c H locs 0 0 (MQ below (gx_Qv D (ww_Bg_shiftLeft g o o_limbs (.ref o_limbs) o_size o_limbs_c) (ww_Bg_shiftLeft g o o_limbs (.ref o_limbs) r.1 r.2) s.heap.size) ([.ref o, .int a1] : List Value).toArray s 0 0 (va_A (ww_Bg_shiftLeft g o o_limbs (.ref o_limbs) o_size o_limbs_c) s.heap.size)) (F0 m 35 ls []) := by
    intro n
    induction n with
    | zero => intro v2 v3 v4 v5 o_sizeq o_limbs_cq ls H locs hl hS hP hD hf; cases hf
    | succ n ih =>
      intro v2 v3 v4 v5 o_sizeq o_limbs_cq ls H locs hl hS hP hD hf
      have hf : (if v5 < 0 then ((f_Bg_trim v4 o_limbs_cq).bind fun u92 => some (u92, o_limbs_cq)) else ((f_Bg_limb (v5 - v2) o_sizeq o_limbs_cq).bind fun u45 => (f_Bg_limb ((v5 - v2) - (1 : Int32)) o_sizeq o_limbs_cq).bind fun u58 => if gx_ok v5 96 = true then f_Bg_shiftLeft_35 n v2 v3 v4 (v5 + (-1)) o_sizeq (upd o_limbs_cq v5.toNatClampNeg (((((u45 <<< ((32 : Int32).toInt64 &&& 63)) ||| u58).toUInt64 >>> (((32 : Int32) - v3).toInt64.toUInt64 &&& Int64.toUInt64 63)).toInt64).toInt32)) else none)) = some r := hf
      refine lv_iload S.1 S.2.1 d_Bg_shiftLeft_35 (lv_at hl 4 rfl) ?_
      refine lv_if_lt (tgt := 85) S.1 S.2.1 d_Bg_shiftLeft_37 (by decide) (fun h => ?_) (fun h => ?_)
      ·
        have hf := gx_ifp h hf
        refine lv_aload_n S.1 S.2.1 d_Bg_shiftLeft_85 rfl (lv_at hl 0 rfl) ?_
        refine lv_iload S.1 S.2.1 d_Bg_shiftLeft_86 (lv_at hl 3 rfl) ?_
        refine gx_pf (v := .int v4) (ws2 := (ww_Bg_shiftLeft g o o_limbs (.ref o_limbs) v4 o_limbs_cq)) S E hS hP hD 0 rfl rfl i_Bg k_Bg n_Bg 1 rfl wd_107 ⟨rfl, rfl, rfl, rfl⟩ rfl rfl rfl d_Bg_shiftLeft_88 rfl (fun H locs hS hP hD => ?_)
        refine lv_aload_n S.1 S.2.1 d_Bg_shiftLeft_91 rfl (lv_at hl 0 rfl) ?_
        obtain ⟨u92, hc92, hf⟩ := gx_bnd hf
        refine gx_Vv (ws2 := (ww_Bg_shiftLeft g o o_limbs (.ref o_limbs) u92 o_limbs_cq)) S E hS hP hD (c_Bg_trim l z D g o o_limbs v4 o_limbs_cq u92 hc92) cal_Bg_trim wd_508 ws_1 wd_506 rfl [0, 1] rfl rfl rfl (gx_rc E hP 0 rfl rfl) rfl hl.1 rfl d_Bg_shiftLeft_92 ⟨Nat.zero_le _, Nat.zero_le _⟩ rfl (fun H locs hS hP hD => ?_)
        obtain rfl := Option.some.inj hf
        exact gx_rv S hr hlk hS hP hD d_Bg_shiftLeft_95
      ·
        have hf := gx_ifn h hf
        refine lv_aload_n S.1 S.2.1 d_Bg_shiftLeft_40 rfl (lv_at hl 0 rfl) ?_
        refine lv_iload S.1 S.2.1 d_Bg_shiftLeft_41 (lv_at hl 4 rfl) ?_
        refine lv_iload_n S.1 S.2.1 d_Bg_shiftLeft_43 rfl (lv_at hl 1 rfl) ?_
        refine lv_isub S.1 S.2.1 d_Bg_shiftLeft_44 ?_
        obtain ⟨u45, hc45, hf⟩ := gx_bnd hf
        refine gx_Vl (ws2 := (ww_Bg_shiftLeft g o o_limbs (.ref o_limbs) o_sizeq o_limbs_cq)) S E hS hP hD (c_Bg_limb l z D g o o_limbs o_sizeq o_limbs_cq (v5 - v2) u45 hc45) cal_Bg_limb wd_527 wd_528 wd_526 rfl [0, 1] rfl rfl rfl (gx_rc E hP 0 rfl rfl) rfl hl.1 rfl d_Bg_shiftLeft_45 ⟨Nat.zero_le _, Nat.zero_le _⟩ rfl (fun H locs hS hP hD => ?_)
        refine lv_bipush (v := 32) S.1 S.2.1 d_Bg_shiftLeft_48 (by decide) ?_
        refine lv_lshl S.1 S.2.1 d_Bg_shiftLeft_50 rfl ?_
        refine lv_aload_n S.1 S.2.1 d_Bg_shiftLeft_51 rfl (lv_at hl 0 rfl) ?_
        refine lv_iload S.1 S.2.1 d_Bg_shiftLeft_52 (lv_at hl 4 rfl) ?_
        refine lv_iload_n S.1 S.2.1 d_Bg_shiftLeft_54 rfl (lv_at hl 1 rfl) ?_
        refine lv_isub S.1 S.2.1 d_Bg_shiftLeft_55 ?_
        refine lv_iconst (v := 1) S.1 S.2.1 d_Bg_shiftLeft_56 (by decide) ?_
        refine lv_isub S.1 S.2.1 d_Bg_shiftLeft_57 ?_
        obtain ⟨u58, hc58, hf⟩ := gx_bnd hf
        refine gx_Vl (ws2 := (ww_Bg_shiftLeft g o o_limbs (.ref o_limbs) o_sizeq o_limbs_cq)) S E hS hP hD (c_Bg_limb l z D g o o_limbs o_sizeq o_limbs_cq ((v5 - v2) - (1 : Int32)) u58 hc58) cal_Bg_limb wd_527 wd_528 wd_526 rfl [0, 1] rfl rfl rfl (gx_rc E hP 0 rfl rfl) rfl hl.1 rfl d_Bg_shiftLeft_58 ⟨Nat.zero_le _, Nat.zero_le _⟩ rfl (fun H locs hS hP hD => ?_)
        refine lv_lor S.1 S.2.1 d_Bg_shiftLeft_61 ?_
        refine lv_lstore (lv' := [(6, .long ((u45 <<< ((32 : Int32).toInt64 &&& 63)) ||| u58)), (0, .ref o), (2, .int v2), (3, .int v3), (4, .int v4), (5, .int v5)]) S.1 S.2.1 d_Bg_shiftLeft_62 hl (by decide) rfl (fun ls hl => ?_)
        refine lv_aload_n S.1 S.2.1 d_Bg_shiftLeft_64 rfl (lv_at hl 1 rfl) ?_
        refine gx_gf (v := .ref o_limbs) S E hP 0 rfl rfl i_Bg 0 rfl wd_106 ⟨rfl, rfl, rfl⟩ rfl d_Bg_shiftLeft_65 ?_
        refine lv_iload S.1 S.2.1 d_Bg_shiftLeft_68 (lv_at hl 5 rfl) ?_
        refine lv_lload S.1 S.2.1 d_Bg_shiftLeft_70 (lv_at hl 0 rfl) ?_
        refine lv_bipush (v := 32) S.1 S.2.1 d_Bg_shiftLeft_72 (by decide) ?_
        refine lv_iload_n S.1 S.2.1 d_Bg_shiftLeft_74 rfl (lv_at hl 3 rfl) ?_
        refine lv_isub S.1 S.2.1 d_Bg_shiftLeft_75 ?_
        refine lv_lushr S.1 S.2.1 d_Bg_shiftLeft_76 rfl ?_
        refine lv_l2i S.1 S.2.1 d_Bg_shiftLeft_77 rfl ?_
        obtain ⟨hin, hf⟩ := gx_chk hf
        refine gx_iast (ws2 := (ww_Bg_shiftLeft g o o_limbs (.ref o_limbs) o_sizeq (upd o_limbs_cq v5.toNatClampNeg (((((u45 <<< ((32 : Int32).toInt64 &&& 63)) ||| u58).toUInt64 >>> (((32 : Int32) - v3).toInt64.toUInt64 &&& Int64.toUInt64 63)).toInt64).toInt32)))) S E hS hP hD 1 0 rfl rfl hin d_Bg_shiftLeft_78 rfl (fun H locs hS hP hD => ?_)
        refine lv_iinc (v := v5 + (-1)) (lv' := [(5, .int (v5 + (-1))), (6, .long ((u45 <<< ((32 : Int32).toInt64 &&& 63)) ||| u58)), (0, .ref o), (2, .int v2), (3, .int v3), (4, .int v4)]) S.1 S.2.1 d_Bg_shiftLeft_79 hl (k := 5) rfl rfl (by decide) rfl (fun ls hl => ?_)
        refine lv_goto (tgt := 35) S.1 S.2.1 d_Bg_shiftLeft_82 (by decide) ?_
        exact ih v2 v3 v4 (v5 + (-1)) o_sizeq (upd o_limbs_cq v5.toNatClampNeg (((((u45 <<< ((32 : Int32).toInt64 &&& 63)) ||| u58).toUInt64 >>> (((32 : Int32) - v3).toInt64.toUInt64 &&& Int64.toUInt64 63)).toInt64).toInt32)) ls _ _ (lv_sub hl [2, 3, 4, 5, 0] rfl) hS hP hD hf
  have hf : (if 0 < a1 then ((f_JMath_min ((o_size + (a1 >>> ((5 : Int32) &&& 31))) + (1 : Int32)) (96 : Int32)).bind fun u24 => f_Bg_shiftLeft_35 gx_fu (a1 >>> ((5 : Int32) &&& 31)) (a1 &&& (31 : Int32)) u24 (u24 - (1 : Int32)) o_size o_limbs_c) else (some (o_size, o_limbs_c))) = some r := hf
  refine lv_iload_n S.1 S.2.1 d_Bg_shiftLeft_0 rfl (lv_at hl 1 rfl) ?_
  refine lv_if_gt (tgt := 5) S.1 S.2.1 d_Bg_shiftLeft_1 (by decide) (fun h => ?_) (fun h => ?_)
  ·
    have hf := gx_ifp h hf
    refine lv_iload_n S.1 S.2.1 d_Bg_shiftLeft_5 rfl (lv_at hl 1 rfl) ?_
    refine lv_iconst (v := 5) S.1 S.2.1 d_Bg_shiftLeft_6 (by decide) ?_
    refine lv_ishr S.1 S.2.1 d_Bg_shiftLeft_7 ?_
    refine lv_istore_n (lv' := [(2, .int (a1 >>> ((5 : Int32) &&& 31))), (0, .ref o), (1, .int a1)]) S.1 S.2.1 d_Bg_shiftLeft_8 rfl hl (by decide) rfl (fun ls hl => ?_)
    refine lv_iload_n S.1 S.2.1 d_Bg_shiftLeft_9 rfl (lv_at hl 2 rfl) ?_
    refine lv_bipush (v := 31) S.1 S.2.1 d_Bg_shiftLeft_10 (by decide) ?_
    refine lv_iand S.1 S.2.1 d_Bg_shiftLeft_12 ?_
    refine lv_istore_n (lv' := [(3, .int (a1 &&& (31 : Int32))), (2, .int (a1 >>> ((5 : Int32) &&& 31))), (0, .ref o), (1, .int a1)]) S.1 S.2.1 d_Bg_shiftLeft_13 rfl hl (by decide) rfl (fun ls hl => ?_)
    refine lv_aload_n S.1 S.2.1 d_Bg_shiftLeft_14 rfl (lv_at hl 2 rfl) ?_
    refine gx_gf (v := .int o_size) S E hP 0 rfl rfl i_Bg 1 rfl wd_107 ⟨rfl, rfl, rfl⟩ rfl d_Bg_shiftLeft_15 ?_
    refine lv_iload_n S.1 S.2.1 d_Bg_shiftLeft_18 rfl (lv_at hl 1 rfl) ?_
    refine lv_iadd S.1 S.2.1 d_Bg_shiftLeft_19 ?_
    refine lv_iconst (v := 1) S.1 S.2.1 d_Bg_shiftLeft_20 (by decide) ?_
    refine lv_iadd S.1 S.2.1 d_Bg_shiftLeft_21 ?_
    refine lv_bipush (v := 96) S.1 S.2.1 d_Bg_shiftLeft_22 (by decide) ?_
    obtain ⟨u24, hc24, hf⟩ := gx_bnd hf
    refine gx_Si (ws2 := (ww_Bg_shiftLeft g o o_limbs (.ref o_limbs) o_size o_limbs_c)) S E hS hP hD (c_JMath_min l z D g ((o_size + (a1 >>> ((5 : Int32) &&& 31))) + (1 : Int32)) (96 : Int32) u24 hc24) cal_JMath_min wd_419 wd_525 rfl [] rfl rfl rfl rfl hl.1 rfl d_Bg_shiftLeft_24 ⟨Nat.zero_le _, Nat.zero_le _⟩ rfl (fun H locs hS hP hD => ?_)
    refine lv_istore (lv' := [(4, .int u24), (3, .int (a1 &&& (31 : Int32))), (2, .int (a1 >>> ((5 : Int32) &&& 31))), (0, .ref o), (1, .int a1)]) S.1 S.2.1 d_Bg_shiftLeft_27 hl (by decide) rfl (fun ls hl => ?_)
    refine lv_iload S.1 S.2.1 d_Bg_shiftLeft_29 (lv_at hl 0 rfl) ?_
    refine lv_iconst (v := 1) S.1 S.2.1 d_Bg_shiftLeft_31 (by decide) ?_
    refine lv_isub S.1 S.2.1 d_Bg_shiftLeft_32 ?_
    refine lv_istore (lv' := [(5, .int (u24 - (1 : Int32))), (4, .int u24), (3, .int (a1 &&& (31 : Int32))), (2, .int (a1 >>> ((5 : Int32) &&& 31))), (0, .ref o), (1, .int a1)]) S.1 S.2.1 d_Bg_shiftLeft_33 hl (by decide) rfl (fun ls hl => ?_)
    exact c_35 gx_fu (a1 >>> ((5 : Int32) &&& 31)) (a1 &&& (31 : Int32)) u24 (u24 - (1 : Int32)) o_size o_limbs_c ls _ _ (lv_sub hl [4, 3, 2, 1, 0] rfl) hS hP hD hf
  ·
    have hf := gx_ifn h hf
    obtain rfl := Option.some.inj hf
    exact gx_rv S hr hlk hS hP hD d_Bg_shiftLeft_4
theorem d_Bg_setTimes_0 : decode b_Bg_setTimes 0 = .ok (.aload_n 0, 1) := by decide +kernel
theorem d_Bg_setTimes_1 : decode b_Bg_setTimes 1 = .ok (.lload_n 1, 1) := by decide +kernel
theorem d_Bg_setTimes_2 : decode b_Bg_setTimes 2 = .ok (.invokevirtual 28, 3) := by decide +kernel
theorem d_Bg_setTimes_5 : decode b_Bg_setTimes 5 = .ok (.aload_n 0, 1) := by decide +kernel
theorem d_Bg_setTimes_6 : decode b_Bg_setTimes 6 = .ok (.iload_n 3, 1) := by decide +kernel
theorem d_Bg_setTimes_7 : decode b_Bg_setTimes 7 = .ok (.invokevirtual 32, 3) := by decide +kernel
theorem d_Bg_setTimes_10 : decode b_Bg_setTimes 10 = .ok (.aload_n 0, 1) := by decide +kernel
theorem d_Bg_setTimes_11 : decode b_Bg_setTimes 11 = .ok (.iload 4, 2) := by decide +kernel
theorem d_Bg_setTimes_13 : decode b_Bg_setTimes 13 = .ok (.invokevirtual 36, 3) := by decide +kernel
theorem d_Bg_setTimes_16 : decode b_Bg_setTimes 16 = .ok (.return_, 1) := by decide +kernel
theorem cal_Bg_setTimes : gx_cal y_Bg_setTimes b_Bg_setTimes 5 none 3 := ⟨wd_501, wd_5, by decide +kernel⟩
def ww_Bg_setTimes (g : Nat → ClassId) (o : Nat) (o_limbs : Nat) (x_o_limbs : Value) (x_o_size : Int32) (y_o_limbs : Nat → Int32) : va_W := [(o, .inr (1, [x_o_limbs, .int x_o_size])), (o_limbs, .inl (g 0, 96, .inl y_o_limbs))]
def f_Bg_setTimes (a1 : Int64) (a2 : Int32) (a3 : Int32) (o_size : Int32) (o_limbs_c : Nat → Int32) : Option (Int32 × (Nat → Int32)) := (f_Bg_set a1 o_size o_limbs_c).bind fun u2 => (f_Bg_timesFives a2 u2.1 u2.2).bind fun u7 => (f_Bg_shiftLeft a3 u7.1 u7.2).bind fun u13 => some (u13.1, u13.2)
set_option maxHeartbeats 4000000 in
set_option maxRecDepth 100000 in
theorem c_Bg_setTimes (l : Launch) (z : State) (D : va_G) (g : Nat → ClassId) (o : Nat) (o_limbs : Nat) (o_size : Int32) (o_limbs_c : Nat → Int32) (a1 : Int64) (a2 : Int32) (a3 : Int32) (r : Int32 × (Nat → Int32)) (hf : f_Bg_setTimes a1 a2 a3 o_size o_limbs_c = some r) : gx_Mv l z D g y_Bg_setTimes b_Bg_setTimes 5 ({ frames := 2, cells := 0, slots := 0, locals := 48 } : Room) [.ref o, .long a1, .int a2, .int a3] (ww_Bg_setTimes g o o_limbs (.ref o_limbs) o_size o_limbs_c) (ww_Bg_setTimes g o o_limbs (.ref o_limbs) r.1 r.2) := by
  refine gx_go (by decide +kernel) rfl ?_
  intro p e s m below meth c ls S hr hlk hnm E hP hD hl
  have hS : va_S (va_A (ww_Bg_setTimes g o o_limbs (.ref o_limbs) o_size o_limbs_c) s.heap.size) s.heap s.heap [] := va_S.rf
  have hl : lv_has ls 5 [(0, .ref o), (1, .long a1), (3, .int a2), (4, .int a3)] := hl
  have hf : ((f_Bg_set a1 o_size o_limbs_c).bind fun u2 => (f_Bg_timesFives a2 u2.1 u2.2).bind fun u7 => (f_Bg_shiftLeft a3 u7.1 u7.2).bind fun u13 => some (u13.1, u13.2)) = some r := hf
  refine lv_aload_n S.1 S.2.1 d_Bg_setTimes_0 rfl (lv_at hl 0 rfl) ?_
  refine lv_lload_n S.1 S.2.1 d_Bg_setTimes_1 rfl (lv_at hl 1 rfl) ?_
  obtain ⟨u2, hc2, hf⟩ := gx_bnd hf
  refine gx_Vv (ws2 := (ww_Bg_setTimes g o o_limbs (.ref o_limbs) u2.1 u2.2)) S E hS hP hD (c_Bg_set l z D g o o_limbs o_size o_limbs_c a1 u2 hc2) cal_Bg_set wd_503 wd_504 wd_502 rfl [0, 1] rfl rfl rfl (gx_rc E hP 0 rfl rfl) rfl hl.1 rfl d_Bg_setTimes_2 ⟨Nat.zero_le _, Nat.zero_le _⟩ rfl (fun H locs hS hP hD => ?_)
  refine lv_aload_n S.1 S.2.1 d_Bg_setTimes_5 rfl (lv_at hl 0 rfl) ?_
  refine lv_iload_n S.1 S.2.1 d_Bg_setTimes_6 rfl (lv_at hl 2 rfl) ?_
  obtain ⟨u7, hc7, hf⟩ := gx_bnd hf
  refine gx_Vv (ws2 := (ww_Bg_setTimes g o o_limbs (.ref o_limbs) u7.1 u7.2)) S E hS hP hD (c_Bg_timesFives l z D g o o_limbs u2.1 u2.2 a2 u7 hc7) cal_Bg_timesFives wd_511 wd_512 wd_510 rfl [0, 1] rfl rfl rfl (gx_rc E hP 0 rfl rfl) rfl hl.1 rfl d_Bg_setTimes_7 ⟨Nat.zero_le _, Nat.zero_le _⟩ rfl (fun H locs hS hP hD => ?_)
  refine lv_aload_n S.1 S.2.1 d_Bg_setTimes_10 rfl (lv_at hl 0 rfl) ?_
  refine lv_iload S.1 S.2.1 d_Bg_setTimes_11 (lv_at hl 3 rfl) ?_
  obtain ⟨u13, hc13, hf⟩ := gx_bnd hf
  refine gx_Vv (ws2 := (ww_Bg_setTimes g o o_limbs (.ref o_limbs) u13.1 u13.2)) S E hS hP hD (c_Bg_shiftLeft l z D g o o_limbs u7.1 u7.2 a3 u13 hc13) cal_Bg_shiftLeft wd_522 wd_523 wd_521 rfl [0, 1] rfl rfl rfl (gx_rc E hP 0 rfl rfl) rfl hl.1 rfl d_Bg_setTimes_13 ⟨Nat.zero_le _, Nat.zero_le _⟩ rfl (fun H locs hS hP hD => ?_)
  obtain rfl := Option.some.inj hf
  exact gx_rv S hr hlk hS hP hD d_Bg_setTimes_16
theorem d_Bg_copy_0 : decode b_Bg_copy 0 = .ok (.aload_n 0, 1) := by decide +kernel
theorem d_Bg_copy_1 : decode b_Bg_copy 1 = .ok (.aload_n 1, 1) := by decide +kernel
theorem d_Bg_copy_2 : decode b_Bg_copy 2 = .ok (.getfield 13, 3) := by decide +kernel
theorem d_Bg_copy_5 : decode b_Bg_copy 5 = .ok (.putfield 13, 3) := by decide +kernel
theorem d_Bg_copy_8 : decode b_Bg_copy 8 = .ok (.aload_n 1, 1) := by decide +kernel
theorem d_Bg_copy_9 : decode b_Bg_copy 9 = .ok (.getfield 9, 3) := by decide +kernel
theorem d_Bg_copy_12 : decode b_Bg_copy 12 = .ok (.iconst 0, 1) := by decide +kernel
theorem d_Bg_copy_13 : decode b_Bg_copy 13 = .ok (.aload_n 0, 1) := by decide +kernel
theorem d_Bg_copy_14 : decode b_Bg_copy 14 = .ok (.getfield 9, 3) := by decide +kernel
theorem d_Bg_copy_17 : decode b_Bg_copy 17 = .ok (.iconst 0, 1) := by decide +kernel
theorem d_Bg_copy_18 : decode b_Bg_copy 18 = .ok (.aload_n 0, 1) := by decide +kernel
theorem d_Bg_copy_19 : decode b_Bg_copy 19 = .ok (.getfield 13, 3) := by decide +kernel
theorem d_Bg_copy_22 : decode b_Bg_copy 22 = .ok (.invokestatic 39, 3) := by decide +kernel
theorem d_Bg_copy_25 : decode b_Bg_copy 25 = .ok (.return_, 1) := by decide +kernel
theorem cal_Bg_copy : gx_cal y_Bg_copy b_Bg_copy 2 none 1 := ⟨wd_562, wd_5, by decide +kernel⟩
def ww_Bg_copy (g : Nat → ClassId) (a1 : Nat) (o : Nat) (a1_limbs : Nat) (o_limbs : Nat) (x_a1_limbs : Value) (x_a1_size : Int32) (x_o_limbs : Value) (x_o_size : Int32) (y_a1_limbs : Nat → Int32) (y_o_limbs : Nat → Int32) : va_W := [(a1, .inr (1, [x_a1_limbs, .int x_a1_size])), (o, .inr (1, [x_o_limbs, .int x_o_size])), (a1_limbs, .inl (g 0, 96, .inl y_a1_limbs)), (o_limbs, .inl (g 0, 96, .inl y_o_limbs))]
def f_Bg_copy (a1_size : Int32) (o_size : Int32) (a1_limbs_c : Nat → Int32) (o_limbs_c : Nat → Int32) : Option (Int32 × (Nat → Int32)) := if gx_cpk (0 : Int32) (0 : Int32) a1_size 96 96 = true then if gx_cpf .int a1_limbs_c (0 : Int32) a1_size = true then some (a1_size, va_cpy a1_limbs_c o_limbs_c (0 : Int32).toNatClampNeg (0 : Int32).toNatClampNeg a1_size.toNatClampNeg) else none else none
set_option maxHeartbeats 4000000 in
set_option maxRecDepth 100000 in
theorem c_Bg_copy (l : Launch) (z : State) (D : va_G) (g : Nat → ClassId) (a1 : Nat) (o : Nat) (a1_limbs : Nat) (o_limbs : Nat) (a1_size : Int32) (o_size : Int32) (a1_limbs_c : Nat → Int32) (o_limbs_c : Nat → Int32) (r : Int32 × (Nat → Int32)) (hf : f_Bg_copy a1_size o_size a1_limbs_c o_limbs_c = some r) : gx_Mv l z D g y_Bg_copy b_Bg_copy 2 ({ frames := 1, cells := 0, slots := 0, locals := 26 } : Room) [.ref o, .ref a1] (ww_Bg_copy g a1 o a1_limbs o_limbs (.ref a1_limbs) a1_size (.ref o_limbs) o_size a1_limbs_c o_limbs_c) (ww_Bg_copy g a1 o a1_limbs o_limbs (.ref a1_limbs) a1_size (.ref o_limbs) r.1 a1_limbs_c r.2) := by
  refine gx_go (by decide +kernel) rfl ?_
  intro p e s m below meth c ls S hr hlk hnm E hP hD hl
  have hS : va_S (va_A (ww_Bg_copy g a1 o a1_limbs o_limbs (.ref a1_limbs) a1_size (.ref o_limbs) o_size a1_limbs_c o_limbs_c) s.heap.size) s.heap s.heap [] := va_S.rf
  have hl : lv_has ls 2 [(0, .ref o), (1, .ref a1)] := hl
  have hf : (if gx_cpk (0 : Int32) (0 : Int32) a1_size 96 96 = true then if gx_cpf .int a1_limbs_c (0 : Int32) a1_size = true then some (a1_size, va_cpy a1_limbs_c o_limbs_c (0 : Int32).toNatClampNeg (0 : Int32).toNatClampNeg a1_size.toNatClampNeg) else none else none) = some r := hf
  refine lv_aload_n S.1 S.2.1 d_Bg_copy_0 rfl (lv_at hl 0 rfl) ?_
  refine lv_aload_n S.1 S.2.1 d_Bg_copy_1 rfl (lv_at hl 1 rfl) ?_
  refine gx_gf (v := .int a1_size) S E hP 0 rfl rfl i_Bg 1 rfl wd_107 ⟨rfl, rfl, rfl⟩ rfl d_Bg_copy_2 ?_
  refine gx_pf (v := .int a1_size) (ws2 := (ww_Bg_copy g a1 o a1_limbs o_limbs (.ref a1_limbs) a1_size (.ref o_limbs) a1_size a1_limbs_c o_limbs_c)) S E hS hP hD 1 rfl rfl i_Bg k_Bg n_Bg 1 rfl wd_107 ⟨rfl, rfl, rfl, rfl⟩ rfl rfl rfl d_Bg_copy_5 rfl (fun H locs hS hP hD => ?_)
  refine lv_aload_n S.1 S.2.1 d_Bg_copy_8 rfl (lv_at hl 1 rfl) ?_
  refine gx_gf (v := .ref a1_limbs) S E hP 0 rfl rfl i_Bg 0 rfl wd_106 ⟨rfl, rfl, rfl⟩ rfl d_Bg_copy_9 ?_
  refine lv_iconst (v := 0) S.1 S.2.1 d_Bg_copy_12 (by decide) ?_
  refine lv_aload_n S.1 S.2.1 d_Bg_copy_13 rfl (lv_at hl 0 rfl) ?_
  refine gx_gf (v := .ref o_limbs) S E hP 1 rfl rfl i_Bg 0 rfl wd_106 ⟨rfl, rfl, rfl⟩ rfl d_Bg_copy_14 ?_
  refine lv_iconst (v := 0) S.1 S.2.1 d_Bg_copy_17 (by decide) ?_
  refine lv_aload_n S.1 S.2.1 d_Bg_copy_18 rfl (lv_at hl 0 rfl) ?_
  refine gx_gf (v := .int a1_size) S E hP 1 rfl rfl i_Bg 1 rfl wd_107 ⟨rfl, rfl, rfl⟩ rfl d_Bg_copy_19 ?_
  obtain ⟨hin, hf⟩ := gx_chk hf
  obtain ⟨hfi, hf⟩ := gx_chk hf
  refine gx_cp (ws2 := (ww_Bg_copy g a1 o a1_limbs o_limbs (.ref a1_limbs) a1_size (.ref o_limbs) a1_size a1_limbs_c (va_cpy a1_limbs_c o_limbs_c (0 : Int32).toNatClampNeg (0 : Int32).toNatClampNeg a1_size.toNatClampNeg))) S E hS hP hD hl.1 wd_563 wd_565 wd_564 wd_27 2 3 0 rfl rfl rfl rfl rfl hin hfi rfl rfl d_Bg_copy_22 rfl (fun H locs hS hP hD => ?_)
  obtain rfl := Option.some.inj hf
  exact gx_rv S hr hlk hS hP hD d_Bg_copy_25
theorem d_Bg_against_0 : decode b_Bg_against 0 = .ok (.aload_n 0, 1) := by decide +kernel
theorem d_Bg_against_1 : decode b_Bg_against 1 = .ok (.getfield 13, 3) := by decide +kernel
theorem d_Bg_against_4 : decode b_Bg_against 4 = .ok (.aload_n 1, 1) := by decide +kernel
theorem d_Bg_against_5 : decode b_Bg_against 5 = .ok (.getfield 13, 3) := by decide +kernel
theorem d_Bg_against_8 : decode b_Bg_against 8 = .ok (.if_icmp .eq 20, 3) := by decide +kernel
theorem d_Bg_against_11 : decode b_Bg_against 11 = .ok (.aload_n 0, 1) := by decide +kernel
theorem d_Bg_against_12 : decode b_Bg_against 12 = .ok (.getfield 13, 3) := by decide +kernel
theorem d_Bg_against_15 : decode b_Bg_against 15 = .ok (.aload_n 1, 1) := by decide +kernel
theorem d_Bg_against_16 : decode b_Bg_against 16 = .ok (.getfield 13, 3) := by decide +kernel
theorem d_Bg_against_19 : decode b_Bg_against 19 = .ok (.if_icmp .ge 7, 3) := by decide +kernel
theorem d_Bg_against_22 : decode b_Bg_against 22 = .ok (.iconst (-1), 1) := by decide +kernel
theorem d_Bg_against_23 : decode b_Bg_against 23 = .ok (.goto 4, 3) := by decide +kernel
theorem d_Bg_against_26 : decode b_Bg_against 26 = .ok (.iconst 1, 1) := by decide +kernel
theorem d_Bg_against_27 : decode b_Bg_against 27 = .ok (.ireturn, 1) := by decide +kernel
theorem d_Bg_against_28 : decode b_Bg_against 28 = .ok (.aload_n 0, 1) := by decide +kernel
theorem d_Bg_against_29 : decode b_Bg_against 29 = .ok (.getfield 13, 3) := by decide +kernel
theorem d_Bg_against_32 : decode b_Bg_against 32 = .ok (.iconst 1, 1) := by decide +kernel
theorem d_Bg_against_33 : decode b_Bg_against 33 = .ok (.isub, 1) := by decide +kernel
theorem d_Bg_against_34 : decode b_Bg_against 34 = .ok (.istore_n 2, 1) := by decide +kernel
theorem d_Bg_against_35 : decode b_Bg_against 35 = .ok (.iload_n 2, 1) := by decide +kernel
theorem d_Bg_against_36 : decode b_Bg_against 36 = .ok (.ifCond .lt 56, 3) := by decide +kernel
theorem d_Bg_against_39 : decode b_Bg_against 39 = .ok (.aload_n 0, 1) := by decide +kernel
theorem d_Bg_against_40 : decode b_Bg_against 40 = .ok (.getfield 9, 3) := by decide +kernel
theorem d_Bg_against_43 : decode b_Bg_against 43 = .ok (.iload_n 2, 1) := by decide +kernel
theorem d_Bg_against_44 : decode b_Bg_against 44 = .ok (.iaload, 1) := by decide +kernel
theorem d_Bg_against_45 : decode b_Bg_against 45 = .ok (.aload_n 1, 1) := by decide +kernel
theorem d_Bg_against_46 : decode b_Bg_against 46 = .ok (.getfield 9, 3) := by decide +kernel
theorem d_Bg_against_49 : decode b_Bg_against 49 = .ok (.iload_n 2, 1) := by decide +kernel
theorem d_Bg_against_50 : decode b_Bg_against 50 = .ok (.iaload, 1) := by decide +kernel
theorem d_Bg_against_51 : decode b_Bg_against 51 = .ok (.if_icmp .eq 35, 3) := by decide +kernel
theorem d_Bg_against_54 : decode b_Bg_against 54 = .ok (.aload_n 0, 1) := by decide +kernel
theorem d_Bg_against_55 : decode b_Bg_against 55 = .ok (.getfield 9, 3) := by decide +kernel
theorem d_Bg_against_58 : decode b_Bg_against 58 = .ok (.iload_n 2, 1) := by decide +kernel
theorem d_Bg_against_59 : decode b_Bg_against 59 = .ok (.iaload, 1) := by decide +kernel
theorem d_Bg_against_60 : decode b_Bg_against 60 = .ok (.i2l, 1) := by decide +kernel
theorem d_Bg_against_61 : decode b_Bg_against 61 = .ok (.ldc2_w 17, 3) := by decide +kernel
theorem d_Bg_against_64 : decode b_Bg_against 64 = .ok (.land, 1) := by decide +kernel
theorem d_Bg_against_65 : decode b_Bg_against 65 = .ok (.aload_n 1, 1) := by decide +kernel
theorem d_Bg_against_66 : decode b_Bg_against 66 = .ok (.getfield 9, 3) := by decide +kernel
theorem d_Bg_against_69 : decode b_Bg_against 69 = .ok (.iload_n 2, 1) := by decide +kernel
theorem d_Bg_against_70 : decode b_Bg_against 70 = .ok (.iaload, 1) := by decide +kernel
theorem d_Bg_against_71 : decode b_Bg_against 71 = .ok (.i2l, 1) := by decide +kernel
theorem d_Bg_against_72 : decode b_Bg_against 72 = .ok (.ldc2_w 17, 3) := by decide +kernel
theorem d_Bg_against_75 : decode b_Bg_against 75 = .ok (.land, 1) := by decide +kernel
theorem d_Bg_against_76 : decode b_Bg_against 76 = .ok (.lcmp, 1) := by decide +kernel
theorem d_Bg_against_77 : decode b_Bg_against 77 = .ok (.ifCond .ge 7, 3) := by decide +kernel
theorem d_Bg_against_80 : decode b_Bg_against 80 = .ok (.iconst (-1), 1) := by decide +kernel
theorem d_Bg_against_81 : decode b_Bg_against 81 = .ok (.goto 4, 3) := by decide +kernel
theorem d_Bg_against_84 : decode b_Bg_against 84 = .ok (.iconst 1, 1) := by decide +kernel
theorem d_Bg_against_85 : decode b_Bg_against 85 = .ok (.ireturn, 1) := by decide +kernel
theorem d_Bg_against_86 : decode b_Bg_against 86 = .ok (.iinc 2 (-1), 3) := by decide +kernel
theorem d_Bg_against_89 : decode b_Bg_against 89 = .ok (.goto (-54), 3) := by decide +kernel
theorem d_Bg_against_92 : decode b_Bg_against 92 = .ok (.iconst 0, 1) := by decide +kernel
theorem d_Bg_against_93 : decode b_Bg_against 93 = .ok (.ireturn, 1) := by decide +kernel
theorem cal_Bg_against : gx_cal y_Bg_against b_Bg_against 3 (some .int) 1 := ⟨wd_537, wd_5, by decide +kernel⟩
def ww_Bg_against (g : Nat → ClassId) (o : Nat) (a1 : Nat) (o_limbs : Nat) (a1_limbs : Nat) (x_o_limbs : Value) (x_o_size : Int32) (x_a1_limbs : Value) (x_a1_size : Int32) (y_o_limbs : Nat → Int32) (y_a1_limbs : Nat → Int32) : va_W := [(o, .inr (1, [x_o_limbs, .int x_o_size])), (a1, .inr (1, [x_a1_limbs, .int x_a1_size])), (o_limbs, .inl (g 0, 96, .inl y_o_limbs)), (a1_limbs, .inl (g 0, 96, .inl y_a1_limbs))]
def f_Bg_against_35 : Nat → Int32 → Int32 → Int32 → (Nat → Int32) → (Nat → Int32) → Option (Int32)
  | 0, _, _, _, _, _ => none
  | n + 1, v2, o_size, a1_size, o_limbs_c, a1_limbs_c => if v2 < 0 then (some (0 : Int32)) else (if gx_ok v2 96 = true then if gx_ok v2 96 = true then if (o_limbs_c v2.toNatClampNeg) = (a1_limbs_c v2.toNatClampNeg) then (f_Bg_against_35 n (v2 + (-1)) o_size a1_size o_limbs_c a1_limbs_c) else (if gx_ok v2 96 = true then if gx_ok v2 96 = true then if (((a1_limbs_c v2.toNatClampNeg).toInt64) &&& (4294967295 : Int64)) ≤ (((o_limbs_c v2.toNatClampNeg).toInt64) &&& (4294967295 : Int64)) then (some (1 : Int32)) else (some (-1 : Int32)) else none else none) else none else none)
def f_Bg_against (o_size : Int32) (a1_size : Int32) (o_limbs_c : Nat → Int32) (a1_limbs_c : Nat → Int32) : Option (Int32) := if o_size = a1_size then (f_Bg_against_35 gx_fu (o_size - (1 : Int32)) o_size a1_size o_limbs_c a1_limbs_c) else (if a1_size ≤ o_size then (some (1 : Int32)) else (some (-1 : Int32)))
set_option maxHeartbeats 4000000 in
set_option maxRecDepth 100000 in
theorem c_Bg_against (l : Launch) (z : State) (D : va_G) (g : Nat → ClassId) (o : Nat) (a1 : Nat) (o_limbs : Nat) (a1_limbs : Nat) (o_size : Int32) (a1_size : Int32) (o_limbs_c : Nat → Int32) (a1_limbs_c : Nat → Int32) (r : Int32) (hf : f_Bg_against o_size a1_size o_limbs_c a1_limbs_c = some r) : gx_Mi l z D g y_Bg_against b_Bg_against 3 .int ({ frames := 0, cells := 0, slots := 0, locals := 0 } : Room) [.ref o, .ref a1] (ww_Bg_against g o a1 o_limbs a1_limbs (.ref o_limbs) o_size (.ref a1_limbs) a1_size o_limbs_c a1_limbs_c) (ww_Bg_against g o a1 o_limbs a1_limbs (.ref o_limbs) o_size (.ref a1_limbs) a1_size o_limbs_c a1_limbs_c) r := by
  refine gx_go (by decide +kernel) rfl ?_
  intro p e s m below meth c ls S hr hlk hnm E hP hD hl
  have hS : va_S (va_A (ww_Bg_against g o a1 o_limbs a1_limbs (.ref o_limbs) o_size (.ref a1_limbs) a1_size o_limbs_c a1_limbs_c) s.heap.size) s.heap s.heap [] := va_S.rf
  have hl : lv_has ls 3 [(0, .ref o), (1, .ref a1)] := hl
  have c_35 : ∀ n : Nat, ∀ (v2 : Int32) (ls : Array Slot) (H : Heap) (locs : List Loc), lv_has ls 3 [(0, .ref o), (1, .ref a1), (2, .int v2)] → va_S (va_A (ww_Bg_against g o a1 o_limbs a1_limbs (.ref o_limbs) o_size (.ref a1_limbs) a1_size o_limbs_c a1_limbs_c) s.heap.size) s.heap H locs → va_P D vwC (ww_Bg_against g o a1 o_limbs a1_limbs (.ref o_limbs) o_size (.ref a1_limbs) a1_size o_limbs_c a1_limbs_c) H → va_D (va_A (ww_Bg_against g o a1 o_limbs a1_limbs (.ref o_limbs) o_size (.ref a1_limbs) a1_size o_limbs_c a1_limbs_c) s.heap.size) (ww_Bg_against g o a1 o_limbs a1_limbs (.ref o_limbs) o_size (.ref a1_limbs) a1_size o_limbs_c a1_limbs_c) → (f_Bg_against_35 n v2 o_size a1_size o_limbs_c a1_limbs_c) = some r → W p l e ({ frames := 0, cells := 0, slots := 0, locals := 0 } : Room) s m ([.ref o, .ref a1] : List Value).toArray below meth c H locs 0 0 (MQ below (gx_Qi D (ww_Bg_against g o a1 o_limbs a1_limbs (.ref o_limbs) o_size (.ref a1_limbs) a1_size o_limbs_c a1_limbs_c) (ww_Bg_against g o a1 o_limbs a1_limbs (.ref o_limbs) o_size (.ref a1_limbs) a1_size o_limbs_c a1_limbs_c) r s.heap.size) ([.ref o, .ref a1] : List Value).toArray s 0 0 (va_A (ww_Bg_against g o a1 o_limbs a1_limbs (.ref o_limbs) o_size (.ref a1_limbs) a1_size o_limbs_c a1_limbs_c) s.heap.size)) (F0 m 35 ls []) := by
    intro n
    induction n with
    | zero => intro v2 ls H locs hl hS hP hD hf; cases hf
    | succ n ih =>
      intro v2 ls H locs hl hS hP hD hf
      have hf : (if v2 < 0 then (some (0 : Int32)) else (if gx_ok v2 96 = true then if gx_ok v2 96 = true then if (o_limbs_c v2.toNatClampNeg) = (a1_limbs_c v2.toNatClampNeg) then (f_Bg_against_35 n (v2 + (-1)) o_size a1_size o_limbs_c a1_limbs_c) else (if gx_ok v2 96 = true then if gx_ok v2 96 = true then if (((a1_limbs_c v2.toNatClampNeg).toInt64) &&& (4294967295 : Int64)) ≤ (((o_limbs_c v2.toNatClampNeg).toInt64) &&& (4294967295 : Int64)) then (some (1 : Int32)) else (some (-1 : Int32)) else none else none) else none else none)) = some r := hf
      refine lv_iload_n S.1 S.2.1 d_Bg_against_35 rfl (lv_at hl 2 rfl) ?_
      refine lv_if_lt (tgt := 92) S.1 S.2.1 d_Bg_against_36 (by decide) (fun h => ?_) (fun h => ?_)
      ·
        have hf := gx_ifp h hf
        refine lv_iconst (v := 0) S.1 S.2.1 d_Bg_against_92 (by decide) ?_
        obtain rfl := Option.some.inj hf
        exact gx_ri S hr hlk hS hP hD d_Bg_against_93
      ·
        have hf := gx_ifn h hf
        refine lv_aload_n S.1 S.2.1 d_Bg_against_39 rfl (lv_at hl 0 rfl) ?_
        refine gx_gf (v := .ref o_limbs) S E hP 0 rfl rfl i_Bg 0 rfl wd_106 ⟨rfl, rfl, rfl⟩ rfl d_Bg_against_40 ?_
        refine lv_iload_n S.1 S.2.1 d_Bg_against_43 rfl (lv_at hl 2 rfl) ?_
        obtain ⟨hin, hf⟩ := gx_chk hf
        refine va_iald S.1 S.2.1 E.1.1 hP 2 0 rfl rfl (gx_okv hin) d_Bg_against_44 ?_
        refine lv_aload_n S.1 S.2.1 d_Bg_against_45 rfl (lv_at hl 1 rfl) ?_
        refine gx_gf (v := .ref a1_limbs) S E hP 1 rfl rfl i_Bg 0 rfl wd_106 ⟨rfl, rfl, rfl⟩ rfl d_Bg_against_46 ?_
        refine lv_iload_n S.1 S.2.1 d_Bg_against_49 rfl (lv_at hl 2 rfl) ?_
        obtain ⟨hin, hf⟩ := gx_chk hf
        refine va_iald S.1 S.2.1 E.1.1 hP 3 0 rfl rfl (gx_okv hin) d_Bg_against_50 ?_
        refine lv_icmp_eq (tgt := 86) S.1 S.2.1 d_Bg_against_51 (by decide) (fun h => ?_) (fun h => ?_)
        ·
          have hf := gx_ifp h hf
          refine lv_iinc (v := v2 + (-1)) (lv' := [(2, .int (v2 + (-1))), (0, .ref o), (1, .ref a1)]) S.1 S.2.1 d_Bg_against_86 hl (k := 2) rfl rfl (by decide) rfl (fun ls hl => ?_)
          refine lv_goto (tgt := 35) S.1 S.2.1 d_Bg_against_89 (by decide) ?_
          exact ih (v2 + (-1)) ls _ _ (lv_sub hl [1, 2, 0] rfl) hS hP hD hf
        ·
          have hf := gx_ifn h hf
          refine lv_aload_n S.1 S.2.1 d_Bg_against_54 rfl (lv_at hl 0 rfl) ?_
          refine gx_gf (v := .ref o_limbs) S E hP 0 rfl rfl i_Bg 0 rfl wd_106 ⟨rfl, rfl, rfl⟩ rfl d_Bg_against_55 ?_
          refine lv_iload_n S.1 S.2.1 d_Bg_against_58 rfl (lv_at hl 2 rfl) ?_
          obtain ⟨hin, hf⟩ := gx_chk hf
          refine va_iald S.1 S.2.1 E.1.1 hP 2 0 rfl rfl (gx_okv hin) d_Bg_against_59 ?_
          refine lv_i2l S.1 S.2.1 d_Bg_against_60 rfl ?_
          refine lv_ldc2 (v := 4294967295) S.1 S.2.1 S.2.2.2.1 (S.2.2.2.2 _ wd_520) d_Bg_against_61 ?_
          refine lv_land S.1 S.2.1 d_Bg_against_64 ?_
          refine lv_aload_n S.1 S.2.1 d_Bg_against_65 rfl (lv_at hl 1 rfl) ?_
          refine gx_gf (v := .ref a1_limbs) S E hP 1 rfl rfl i_Bg 0 rfl wd_106 ⟨rfl, rfl, rfl⟩ rfl d_Bg_against_66 ?_
          refine lv_iload_n S.1 S.2.1 d_Bg_against_69 rfl (lv_at hl 2 rfl) ?_
          obtain ⟨hin, hf⟩ := gx_chk hf
          refine va_iald S.1 S.2.1 E.1.1 hP 3 0 rfl rfl (gx_okv hin) d_Bg_against_70 ?_
          refine lv_i2l S.1 S.2.1 d_Bg_against_71 rfl ?_
          refine lv_ldc2 (v := 4294967295) S.1 S.2.1 S.2.2.2.1 (S.2.2.2.2 _ wd_520) d_Bg_against_72 ?_
          refine lv_land S.1 S.2.1 d_Bg_against_75 ?_
          refine W.lcmp S.1 S.2.1 d_Bg_against_76 ?_
          refine lv_if_ge (tgt := 84) S.1 S.2.1 d_Bg_against_77 (by decide) (fun h => ?_) (fun h => ?_)
          ·
            have h : (((a1_limbs_c v2.toNatClampNeg).toInt64) &&& (4294967295 : Int64)) ≤ (((o_limbs_c v2.toNatClampNeg).toInt64) &&& (4294967295 : Int64)) := (lg_cmp_ge _ _).mp h
            have hf := gx_ifp h hf
            refine lv_iconst (v := 1) S.1 S.2.1 d_Bg_against_84 (by decide) ?_
            obtain rfl := Option.some.inj hf
            exact gx_ri S hr hlk hS hP hD d_Bg_against_85
          ·
            have h : ¬ (((a1_limbs_c v2.toNatClampNeg).toInt64) &&& (4294967295 : Int64)) ≤ (((o_limbs_c v2.toNatClampNeg).toInt64) &&& (4294967295 : Int64)) := fun q => h ((lg_cmp_ge _ _).mpr q)
            have hf := gx_ifn h hf
            refine lv_iconst (v := (-1)) S.1 S.2.1 d_Bg_against_80 (by decide) ?_
            refine lv_goto (tgt := 85) S.1 S.2.1 d_Bg_against_81 (by decide) ?_
            obtain rfl := Option.some.inj hf
            exact gx_ri S hr hlk hS hP hD d_Bg_against_85
  have hf : (if o_size = a1_size then (f_Bg_against_35 gx_fu (o_size - (1 : Int32)) o_size a1_size o_limbs_c a1_limbs_c) else (if a1_size ≤ o_size then (some (1 : Int32)) else (some (-1 : Int32)))) = some r := hf
  refine lv_aload_n S.1 S.2.1 d_Bg_against_0 rfl (lv_at hl 0 rfl) ?_
  refine gx_gf (v := .int o_size) S E hP 0 rfl rfl i_Bg 1 rfl wd_107 ⟨rfl, rfl, rfl⟩ rfl d_Bg_against_1 ?_
  refine lv_aload_n S.1 S.2.1 d_Bg_against_4 rfl (lv_at hl 1 rfl) ?_
  refine gx_gf (v := .int a1_size) S E hP 1 rfl rfl i_Bg 1 rfl wd_107 ⟨rfl, rfl, rfl⟩ rfl d_Bg_against_5 ?_
  refine lv_icmp_eq (tgt := 28) S.1 S.2.1 d_Bg_against_8 (by decide) (fun h => ?_) (fun h => ?_)
  ·
    have hf := gx_ifp h hf
    refine lv_aload_n S.1 S.2.1 d_Bg_against_28 rfl (lv_at hl 0 rfl) ?_
    refine gx_gf (v := .int o_size) S E hP 0 rfl rfl i_Bg 1 rfl wd_107 ⟨rfl, rfl, rfl⟩ rfl d_Bg_against_29 ?_
    refine lv_iconst (v := 1) S.1 S.2.1 d_Bg_against_32 (by decide) ?_
    refine lv_isub S.1 S.2.1 d_Bg_against_33 ?_
    refine lv_istore_n (lv' := [(2, .int (o_size - (1 : Int32))), (0, .ref o), (1, .ref a1)]) S.1 S.2.1 d_Bg_against_34 rfl hl (by decide) rfl (fun ls hl => ?_)
    exact c_35 gx_fu (o_size - (1 : Int32)) ls _ _ (lv_sub hl [1, 2, 0] rfl) hS hP hD hf
  ·
    have hf := gx_ifn h hf
    refine lv_aload_n S.1 S.2.1 d_Bg_against_11 rfl (lv_at hl 0 rfl) ?_
    refine gx_gf (v := .int o_size) S E hP 0 rfl rfl i_Bg 1 rfl wd_107 ⟨rfl, rfl, rfl⟩ rfl d_Bg_against_12 ?_
    refine lv_aload_n S.1 S.2.1 d_Bg_against_15 rfl (lv_at hl 1 rfl) ?_
    refine gx_gf (v := .int a1_size) S E hP 1 rfl rfl i_Bg 1 rfl wd_107 ⟨rfl, rfl, rfl⟩ rfl d_Bg_against_16 ?_
    refine lv_icmp_ge (tgt := 26) S.1 S.2.1 d_Bg_against_19 (by decide) (fun h => ?_) (fun h => ?_)
    ·
      have hf := gx_ifp h hf
      refine lv_iconst (v := 1) S.1 S.2.1 d_Bg_against_26 (by decide) ?_
      obtain rfl := Option.some.inj hf
      exact gx_ri S hr hlk hS hP hD d_Bg_against_27
    ·
      have hf := gx_ifn h hf
      refine lv_iconst (v := (-1)) S.1 S.2.1 d_Bg_against_22 (by decide) ?_
      refine lv_goto (tgt := 27) S.1 S.2.1 d_Bg_against_23 (by decide) ?_
      obtain rfl := Option.some.inj hf
      exact gx_ri S hr hlk hS hP hD d_Bg_against_27
theorem d_Bg_minusTimes_0 : decode b_Bg_minusTimes 0 = .ok (.lconst 0, 1) := by decide +kernel
theorem d_Bg_minusTimes_1 : decode b_Bg_minusTimes 1 = .ok (.lstore_n 3, 1) := by decide +kernel
theorem d_Bg_minusTimes_2 : decode b_Bg_minusTimes 2 = .ok (.iconst 0, 1) := by decide +kernel
theorem d_Bg_minusTimes_3 : decode b_Bg_minusTimes 3 = .ok (.istore 5, 2) := by decide +kernel
theorem d_Bg_minusTimes_5 : decode b_Bg_minusTimes 5 = .ok (.iload 5, 2) := by decide +kernel
theorem d_Bg_minusTimes_7 : decode b_Bg_minusTimes 7 = .ok (.aload_n 0, 1) := by decide +kernel
theorem d_Bg_minusTimes_8 : decode b_Bg_minusTimes 8 = .ok (.getfield 13, 3) := by decide +kernel
theorem d_Bg_minusTimes_11 : decode b_Bg_minusTimes 11 = .ok (.if_icmp .ge 73, 3) := by decide +kernel
theorem d_Bg_minusTimes_14 : decode b_Bg_minusTimes 14 = .ok (.aload_n 1, 1) := by decide +kernel
theorem d_Bg_minusTimes_15 : decode b_Bg_minusTimes 15 = .ok (.iload 5, 2) := by decide +kernel
theorem d_Bg_minusTimes_17 : decode b_Bg_minusTimes 17 = .ok (.invokevirtual 58, 3) := by decide +kernel
theorem d_Bg_minusTimes_20 : decode b_Bg_minusTimes 20 = .ok (.iload_n 2, 1) := by decide +kernel
theorem d_Bg_minusTimes_21 : decode b_Bg_minusTimes 21 = .ok (.i2l, 1) := by decide +kernel
theorem d_Bg_minusTimes_22 : decode b_Bg_minusTimes 22 = .ok (.lmul, 1) := by decide +kernel
theorem d_Bg_minusTimes_23 : decode b_Bg_minusTimes 23 = .ok (.lload_n 3, 1) := by decide +kernel
theorem d_Bg_minusTimes_24 : decode b_Bg_minusTimes 24 = .ok (.ladd, 1) := by decide +kernel
theorem d_Bg_minusTimes_25 : decode b_Bg_minusTimes 25 = .ok (.lstore 6, 2) := by decide +kernel
theorem d_Bg_minusTimes_27 : decode b_Bg_minusTimes 27 = .ok (.aload_n 0, 1) := by decide +kernel
theorem d_Bg_minusTimes_28 : decode b_Bg_minusTimes 28 = .ok (.getfield 9, 3) := by decide +kernel
theorem d_Bg_minusTimes_31 : decode b_Bg_minusTimes 31 = .ok (.iload 5, 2) := by decide +kernel
theorem d_Bg_minusTimes_33 : decode b_Bg_minusTimes 33 = .ok (.iaload, 1) := by decide +kernel
theorem d_Bg_minusTimes_34 : decode b_Bg_minusTimes 34 = .ok (.i2l, 1) := by decide +kernel
theorem d_Bg_minusTimes_35 : decode b_Bg_minusTimes 35 = .ok (.ldc2_w 17, 3) := by decide +kernel
theorem d_Bg_minusTimes_38 : decode b_Bg_minusTimes 38 = .ok (.land, 1) := by decide +kernel
theorem d_Bg_minusTimes_39 : decode b_Bg_minusTimes 39 = .ok (.lload 6, 2) := by decide +kernel
theorem d_Bg_minusTimes_41 : decode b_Bg_minusTimes 41 = .ok (.ldc2_w 17, 3) := by decide +kernel
theorem d_Bg_minusTimes_44 : decode b_Bg_minusTimes 44 = .ok (.land, 1) := by decide +kernel
theorem d_Bg_minusTimes_45 : decode b_Bg_minusTimes 45 = .ok (.lsub, 1) := by decide +kernel
theorem d_Bg_minusTimes_46 : decode b_Bg_minusTimes 46 = .ok (.lstore 8, 2) := by decide +kernel
theorem d_Bg_minusTimes_48 : decode b_Bg_minusTimes 48 = .ok (.aload_n 0, 1) := by decide +kernel
theorem d_Bg_minusTimes_49 : decode b_Bg_minusTimes 49 = .ok (.getfield 9, 3) := by decide +kernel
theorem d_Bg_minusTimes_52 : decode b_Bg_minusTimes 52 = .ok (.iload 5, 2) := by decide +kernel
theorem d_Bg_minusTimes_54 : decode b_Bg_minusTimes 54 = .ok (.lload 8, 2) := by decide +kernel
theorem d_Bg_minusTimes_56 : decode b_Bg_minusTimes 56 = .ok (.l2i, 1) := by decide +kernel
theorem d_Bg_minusTimes_57 : decode b_Bg_minusTimes 57 = .ok (.iastore, 1) := by decide +kernel
theorem d_Bg_minusTimes_58 : decode b_Bg_minusTimes 58 = .ok (.lload 6, 2) := by decide +kernel
theorem d_Bg_minusTimes_60 : decode b_Bg_minusTimes 60 = .ok (.bipush 32, 2) := by decide +kernel
theorem d_Bg_minusTimes_62 : decode b_Bg_minusTimes 62 = .ok (.lushr, 1) := by decide +kernel
theorem d_Bg_minusTimes_63 : decode b_Bg_minusTimes 63 = .ok (.lload 8, 2) := by decide +kernel
theorem d_Bg_minusTimes_65 : decode b_Bg_minusTimes 65 = .ok (.lconst 0, 1) := by decide +kernel
theorem d_Bg_minusTimes_66 : decode b_Bg_minusTimes 66 = .ok (.lcmp, 1) := by decide +kernel
theorem d_Bg_minusTimes_67 : decode b_Bg_minusTimes 67 = .ok (.ifCond .ge 7, 3) := by decide +kernel
theorem d_Bg_minusTimes_70 : decode b_Bg_minusTimes 70 = .ok (.iconst 1, 1) := by decide +kernel
theorem d_Bg_minusTimes_71 : decode b_Bg_minusTimes 71 = .ok (.goto 4, 3) := by decide +kernel
theorem d_Bg_minusTimes_74 : decode b_Bg_minusTimes 74 = .ok (.iconst 0, 1) := by decide +kernel
theorem d_Bg_minusTimes_75 : decode b_Bg_minusTimes 75 = .ok (.i2l, 1) := by decide +kernel
theorem d_Bg_minusTimes_76 : decode b_Bg_minusTimes 76 = .ok (.ladd, 1) := by decide +kernel
theorem d_Bg_minusTimes_77 : decode b_Bg_minusTimes 77 = .ok (.lstore_n 3, 1) := by decide +kernel
theorem d_Bg_minusTimes_78 : decode b_Bg_minusTimes 78 = .ok (.iinc 5 1, 3) := by decide +kernel
theorem d_Bg_minusTimes_81 : decode b_Bg_minusTimes 81 = .ok (.goto (-76), 3) := by decide +kernel
theorem d_Bg_minusTimes_84 : decode b_Bg_minusTimes 84 = .ok (.aload_n 0, 1) := by decide +kernel
theorem d_Bg_minusTimes_85 : decode b_Bg_minusTimes 85 = .ok (.invokevirtual 25, 3) := by decide +kernel
theorem d_Bg_minusTimes_88 : decode b_Bg_minusTimes 88 = .ok (.return_, 1) := by decide +kernel
theorem cal_Bg_minusTimes : gx_cal y_Bg_minusTimes b_Bg_minusTimes 10 none 2 := ⟨wd_557, wd_5, by decide +kernel⟩
def ww_Bg_minusTimes (g : Nat → ClassId) (o : Nat) (o_limbs : Nat) (a1 : Nat) (a1_limbs : Nat) (x_o_limbs : Value) (x_o_size : Int32) (y_o_limbs : Nat → Int32) (x_a1_limbs : Value) (x_a1_size : Int32) (y_a1_limbs : Nat → Int32) : va_W := [(o, .inr (1, [x_o_limbs, .int x_o_size])), (o_limbs, .inl (g 0, 96, .inl y_o_limbs)), (a1, .inr (1, [x_a1_limbs, .int x_a1_size])), (a1_limbs, .inl (g 0, 96, .inl y_a1_limbs))]
def f_Bg_minusTimes_75 (k5 : Int32 → Int64 → Int32 → Int32 → (Nat → Int32) → Int32 → (Nat → Int32) → Option (Int32 × (Nat → Int32))) (v2 : Int32) (v5 : Int32) (t0 : Int32) (t1 : Int64) (o_sizeq : Int32) (o_limbs_cq : Nat → Int32) (a1_size : Int32) (a1_limbs_c : Nat → Int32) : Option (Int32 × (Nat → Int32)) := k5 v2 (t1 + t0.toInt64) (v5 + 1) o_sizeq o_limbs_cq a1_size a1_limbs_c
def f_Bg_minusTimes_5 : Nat → Int32 → Int64 → Int32 → Int32 → (Nat → Int32) → Int32 → (Nat → Int32) → Option (Int32 × (Nat → Int32))
  | 0, _, _, _, _, _, _, _ => none
  | n + 1, v2, v3, v5, o_sizeq, o_limbs_cq, a1_size, a1_limbs_c => if o_sizeq ≤ v5 then ((f_Bg_trim o_sizeq o_limbs_cq).bind fun u85 => some (u85, o_limbs_cq)) else ((f_Bg_limb v5 a1_size a1_limbs_c).bind fun u17 => if gx_ok v5 96 = true then if gx_ok v5 96 = true then if (0 : Int64) ≤ ((((o_limbs_cq v5.toNatClampNeg).toInt64) &&& (4294967295 : Int64)) - (((u17 * v2.toInt64) + v3) &&& (4294967295 : Int64))) then (f_Bg_minusTimes_75 (fun v2 v3 v5 o_sizeq o_limbs_cq a1_size a1_limbs_c => f_Bg_minusTimes_5 n v2 v3 v5 o_sizeq o_limbs_cq a1_size a1_limbs_c) v2 v5 (0 : Int32) ((((u17 * v2.toInt64) + v3).toUInt64 >>> ((32 : Int32).toInt64.toUInt64 &&& Int64.toUInt64 63)).toInt64) o_sizeq (upd o_limbs_cq v5.toNatClampNeg (((((o_limbs_cq v5.toNatClampNeg).toInt64) &&& (4294967295 : Int64)) - (((u17 * v2.toInt64) + v3) &&& (4294967295 : Int64))).toInt32)) a1_size a1_limbs_c) else (f_Bg_minusTimes_75 (fun v2 v3 v5 o_sizeq o_limbs_cq a1_size a1_limbs_c => f_Bg_minusTimes_5 n v2 v3 v5 o_sizeq o_limbs_cq a1_size a1_limbs_c) v2 v5 (1 : Int32) ((((u17 * v2.toInt64) + v3).toUInt64 >>> ((32 : Int32).toInt64.toUInt64 &&& Int64.toUInt64 63)).toInt64) o_sizeq (upd o_limbs_cq v5.toNatClampNeg (((((o_limbs_cq v5.toNatClampNeg).toInt64) &&& (4294967295 : Int64)) - (((u17 * v2.toInt64) + v3) &&& (4294967295 : Int64))).toInt32)) a1_size a1_limbs_c) else none else none)
def f_Bg_minusTimes (a2 : Int32) (o_size : Int32) (o_limbs_c : Nat → Int32) (a1_size : Int32) (a1_limbs_c : Nat → Int32) : Option (Int32 × (Nat → Int32)) := f_Bg_minusTimes_5 gx_fu a2 (0 : Int64) (0 : Int32) o_size o_limbs_c a1_size a1_limbs_c
set_option maxHeartbeats 4000000 in
set_option maxRecDepth 100000 in
theorem c_Bg_minusTimes (l : Launch) (z : State) (D : va_G) (g : Nat → ClassId) (o : Nat) (o_limbs : Nat) (a1 : Nat) (a1_limbs : Nat) (o_size : Int32) (o_limbs_c : Nat → Int32) (a1_size : Int32) (a1_limbs_c : Nat → Int32) (a2 : Int32) (r : Int32 × (Nat → Int32)) (hf : f_Bg_minusTimes a2 o_size o_limbs_c a1_size a1_limbs_c = some r) : gx_Mv l z D g y_Bg_minusTimes b_Bg_minusTimes 10 ({ frames := 1, cells := 0, slots := 0, locals := 21 } : Room) [.ref o, .ref a1, .int a2] (ww_Bg_minusTimes g o o_limbs a1 a1_limbs (.ref o_limbs) o_size o_limbs_c (.ref a1_limbs) a1_size a1_limbs_c) (ww_Bg_minusTimes g o o_limbs a1 a1_limbs (.ref o_limbs) r.1 r.2 (.ref a1_limbs) a1_size a1_limbs_c) := by
  refine gx_go (by decide +kernel) rfl ?_
  intro p e s m below meth c ls S hr hlk hnm E hP hD hl
  have hS : va_S (va_A (ww_Bg_minusTimes g o o_limbs a1 a1_limbs (.ref o_limbs) o_size o_limbs_c (.ref a1_limbs) a1_size a1_limbs_c) s.heap.size) s.heap s.heap [] := va_S.rf
  have hl : lv_has ls 10 [(0, .ref o), (1, .ref a1), (2, .int a2)] := hl
  have c_75 : ∀ (k5 : Int32 → Int64 → Int32 → Int32 → (Nat → Int32) → Int32 → (Nat → Int32) → Option (Int32 × (Nat → Int32))) (hk5 : ∀ (v2 : Int32) (v3 : Int64) (v5 : Int32) (o_sizeq : Int32) (o_limbs_cq : Nat → Int32) (ls : Array Slot) (H : Heap) (locs : List Loc), lv_has ls 10 [(0, .ref o), (1, .ref a1), (2, .int v2), (3, .long v3), (5, .int v5)] → va_S (va_A (ww_Bg_minusTimes g o o_limbs a1 a1_limbs (.ref o_limbs) o_size o_limbs_c (.ref a1_limbs) a1_size a1_limbs_c) s.heap.size) s.heap H locs → va_P D vwC (ww_Bg_minusTimes g o o_limbs a1 a1_limbs (.ref o_limbs) o_sizeq o_limbs_cq (.ref a1_limbs) a1_size a1_limbs_c) H → va_D (va_A (ww_Bg_minusTimes g o o_limbs a1 a1_limbs (.ref o_limbs) o_size o_limbs_c (.ref a1_limbs) a1_size a1_limbs_c) s.heap.size) (ww_Bg_minusTimes g o o_limbs a1 a1_limbs (.ref o_limbs) o_sizeq o_limbs_cq (.ref a1_limbs) a1_size a1_limbs_c) → (k5 v2 v3 v5 o_sizeq o_limbs_cq a1_size a1_limbs_c) = some r → W p l e ({ frames := 1, cells := 0, slots := 0, locals := 21 } : Room) s m ([.ref o, .ref a1, .int a2] : List Value).toArray below meth c H locs 0 0 (MQ below (gx_Qv D (ww_Bg_minusTimes g o o_limbs a1 a1_limbs (.ref o_limbs) o_size o_limbs_c (.ref a1_limbs) a1_size a1_limbs_c) (ww_Bg_minusTimes g o o_limbs a1 a1_limbs (.ref o_limbs) r.1 r.2 (.ref a1_limbs) a1_size a1_limbs_c) s.heap.size) ([.ref o, .ref a1, .int a2] : List Value).toArray s 0 0 (va_A (ww_Bg_minusTimes g o o_limbs a1 a1_limbs (.ref o_limbs) o_size o_limbs_c (.ref a1_limbs) a1_size a1_limbs_c) s.heap.size)) (F0 m 5 ls [])), ∀ (v2 : Int32) (v5 : Int32) (t0 : Int32) (t1 : Int64) (o_sizeq : Int32) (o_limbs_cq : Nat → Int32) (ls : Array Slot) (H : Heap) (locs : List Loc), lv_has ls 10 [(0, .ref o), (1, .ref a1), (2, .int v2), (5, .int v5)] → va_S (va_A (ww_Bg_minusTimes g o o_limbs a1 a1_limbs (.ref o_limbs) o_size o_limbs_c (.ref a1_limbs) a1_size a1_limbs_c) s.heap.size) s.heap H locs → va_P D vwC (ww_Bg_minusTimes g o o_limbs a1 a1_limbs (.ref o_limbs) o_sizeq o_limbs_cq (.ref a1_limbs) a1_size a1_limbs_c) H → va_D (va_A (ww_Bg_minusTimes g o o_limbs a1 a1_limbs (.ref o_limbs) o_size o_limbs_c (.ref a1_limbs) a1_size a1_limbs_c) s.heap.size) (ww_Bg_minusTimes g o o_limbs a1 a1_limbs (.ref o_limbs) o_sizeq o_limbs_cq (.ref a1_limbs) a1_size a1_limbs_c) → (f_Bg_minusTimes_75 k5 v2 v5 t0 t1 o_sizeq o_limbs_cq a1_size a1_limbs_c) = some r → W p l e ({ frames := 1, cells := 0, slots := 0, locals := 21 } : Room) s m ([.ref o, .ref a1, .int a2] : List Value).toArray below meth c H locs 0 0 (MQ below (gx_Qv D (ww_Bg_minusTimes g o o_limbs a1 a1_limbs (.ref o_limbs) o_size o_limbs_c (.ref a1_limbs) a1_size a1_limbs_c) (ww_Bg_minusTimes g o o_limbs a1 a1_limbs (.ref o_limbs) r.1 r.2 (.ref a1_limbs) a1_size a1_limbs_c) s.heap.size) ([.ref o, .ref a1, .int a2] : List Value).toArray s 0 0 (va_A (ww_Bg_minusTimes g o o_limbs a1 a1_limbs (.ref o_limbs) o_size o_limbs_c (.ref a1_limbs) a1_size a1_limbs_c) s.heap.size)) (F0 m 75 ls [.int t0, .long t1]) := by
    intro k5 hk5
    intro v2 v5 t0 t1 o_sizeq o_limbs_cq ls H locs hl hS hP hD hf
    have hf : (k5 v2 (t1 + t0.toInt64) (v5 + 1) o_sizeq o_limbs_cq a1_size a1_limbs_c) = some r := hf
    refine lv_i2l S.1 S.2.1 d_Bg_minusTimes_75 rfl ?_
    refine lv_ladd S.1 S.2.1 d_Bg_minusTimes_76 ?_
    refine lv_lstore_n (lv' := [(3, .long (t1 + t0.toInt64)), (0, .ref o), (1, .ref a1), (2, .int v2), (5, .int v5)]) S.1 S.2.1 d_Bg_minusTimes_77 rfl hl (by decide) rfl (fun ls hl => ?_)
    refine lv_iinc (v := v5 + 1) (lv' := [(5, .int (v5 + 1)), (3, .long (t1 + t0.toInt64)), (0, .ref o), (1, .ref a1), (2, .int v2)]) S.1 S.2.1 d_Bg_minusTimes_78 hl (k := 4) rfl rfl (by decide) rfl (fun ls hl => ?_)
    refine lv_goto (tgt := 5) S.1 S.2.1 d_Bg_minusTimes_81 (by decide) ?_
    exact hk5 v2 (t1 + t0.toInt64) (v5 + 1) o_sizeq o_limbs_cq ls _ _ (lv_sub hl [2, 3, 4, 1, 0] rfl) hS hP hD hf
  have c_5 : ∀ n : Nat, ∀ (v2 : Int32) (v3 : Int64) (v5 : Int32) (o_sizeq : Int32) (o_limbs_cq : Nat → Int32) (ls : Array Slot) (H : Heap) (locs : List Loc), lv_has ls 10 [(0, .ref o), (1, .ref a1), (2, .int v2), (3, .long v3), (5, .int v5)] → va_S (va_A (ww_Bg_minusTimes g o o_limbs a1 a1_limbs (.ref o_limbs) o_size o_limbs_c (.ref a1_limbs) a1_size a1_limbs_c) s.heap.size) s.heap H locs → va_P D vwC (ww_Bg_minusTimes g o o_limbs a1 a1_limbs (.ref o_limbs) o_sizeq o_limbs_cq (.ref a1_limbs) a1_size a1_limbs_c) H → va_D (va_A (ww_Bg_minusTimes g o o_limbs a1 a1_limbs (.ref o_limbs) o_size o_limbs_c (.ref a1_limbs) a1_size a1_limbs_c) s.heap.size) (ww_Bg_minusTimes g o o_limbs a1 a1_limbs (.ref o_limbs) o_sizeq o_limbs_cq (.ref a1_limbs) a1_size a1_limbs_c) → (f_Bg_minusTimes_5 n v2 v3 v5 o_sizeq o_limbs_cq a1_size a1_limbs_c) = some r → W p l e ({ frames := 1, cells := 0, slots := 0, locals := 21 } : Room) s m ([.ref o, .ref a1, .int a2] : List Value).toArray below meth c H locs 0 0 (MQ below (gx_Qv D (ww_Bg_minusTimes g o o_limbs a1 a1_limbs (.ref o_limbs) o_size o_limbs_c (.ref a1_limbs) a1_size a1_limbs_c) (ww_Bg_minusTimes g o o_limbs a1 a1_limbs (.ref o_limbs) r.1 r.2 (.ref a1_limbs) a1_size a1_limbs_c) s.heap.size) ([.ref o, .ref a1, .int a2] : List Value).toArray s 0 0 (va_A (ww_Bg_minusTimes g o o_limbs a1 a1_limbs (.ref o_limbs) o_size o_limbs_c (.ref a1_limbs) a1_size a1_limbs_c) s.heap.size)) (F0 m 5 ls []) := by
    intro n
    induction n with
    | zero => intro v2 v3 v5 o_sizeq o_limbs_cq ls H locs hl hS hP hD hf; cases hf
    | succ n ih =>
      intro v2 v3 v5 o_sizeq o_limbs_cq ls H locs hl hS hP hD hf
      have hf : (if o_sizeq ≤ v5 then ((f_Bg_trim o_sizeq o_limbs_cq).bind fun u85 => some (u85, o_limbs_cq)) else ((f_Bg_limb v5 a1_size a1_limbs_c).bind fun u17 => if gx_ok v5 96 = true then if gx_ok v5 96 = true then if (0 : Int64) ≤ ((((o_limbs_cq v5.toNatClampNeg).toInt64) &&& (4294967295 : Int64)) - (((u17 * v2.toInt64) + v3) &&& (4294967295 : Int64))) then (f_Bg_minusTimes_75 (fun v2 v3 v5 o_sizeq o_limbs_cq a1_size a1_limbs_c => f_Bg_minusTimes_5 n v2 v3 v5 o_sizeq o_limbs_cq a1_size a1_limbs_c) v2 v5 (0 : Int32) ((((u17 * v2.toInt64) + v3).toUInt64 >>> ((32 : Int32).toInt64.toUInt64 &&& Int64.toUInt64 63)).toInt64) o_sizeq (upd o_limbs_cq v5.toNatClampNeg (((((o_limbs_cq v5.toNatClampNeg).toInt64) &&& (4294967295 : Int64)) - (((u17 * v2.toInt64) + v3) &&& (4294967295 : Int64))).toInt32)) a1_size a1_limbs_c) else (f_Bg_minusTimes_75 (fun v2 v3 v5 o_sizeq o_limbs_cq a1_size a1_limbs_c => f_Bg_minusTimes_5 n v2 v3 v5 o_sizeq o_limbs_cq a1_size a1_limbs_c) v2 v5 (1 : Int32) ((((u17 * v2.toInt64) + v3).toUInt64 >>> ((32 : Int32).toInt64.toUInt64 &&& Int64.toUInt64 63)).toInt64) o_sizeq (upd o_limbs_cq v5.toNatClampNeg (((((o_limbs_cq v5.toNatClampNeg).toInt64) &&& (4294967295 : Int64)) - (((u17 * v2.toInt64) + v3) &&& (4294967295 : Int64))).toInt32)) a1_size a1_limbs_c) else none else none)) = some r := hf
      refine lv_iload S.1 S.2.1 d_Bg_minusTimes_5 (lv_at hl 4 rfl) ?_
      refine lv_aload_n S.1 S.2.1 d_Bg_minusTimes_7 rfl (lv_at hl 0 rfl) ?_
      refine gx_gf (v := .int o_sizeq) S E hP 0 rfl rfl i_Bg 1 rfl wd_107 ⟨rfl, rfl, rfl⟩ rfl d_Bg_minusTimes_8 ?_
      refine lv_icmp_ge (tgt := 84) S.1 S.2.1 d_Bg_minusTimes_11 (by decide) (fun h => ?_) (fun h => ?_)
      ·
        have hf := gx_ifp h hf
        refine lv_aload_n S.1 S.2.1 d_Bg_minusTimes_84 rfl (lv_at hl 0 rfl) ?_
        obtain ⟨u85, hc85, hf⟩ := gx_bnd hf
        refine gx_Vv (ws2 := (ww_Bg_minusTimes g o o_limbs a1 a1_limbs (.ref o_limbs) u85 o_limbs_cq (.ref a1_limbs) a1_size a1_limbs_c)) S E hS hP hD (c_Bg_trim l z D g o o_limbs o_sizeq o_limbs_cq u85 hc85) cal_Bg_trim wd_508 ws_1 wd_506 rfl [0, 1] rfl rfl rfl (gx_rc E hP 0 rfl rfl) rfl hl.1 rfl d_Bg_minusTimes_85 ⟨Nat.zero_le _, Nat.zero_le _⟩ rfl (fun H locs hS hP hD => ?_)
        obtain rfl := Option.some.inj hf
        exact gx_rv S hr hlk hS hP hD d_Bg_minusTimes_88
      ·
        have hf := gx_ifn h hf
        refine lv_aload_n S.1 S.2.1 d_Bg_minusTimes_14 rfl (lv_at hl 1 rfl) ?_
        refine lv_iload S.1 S.2.1 d_Bg_minusTimes_15 (lv_at hl 4 rfl) ?_
        obtain ⟨u17, hc17, hf⟩ := gx_bnd hf
        refine gx_Vl (ws2 := (ww_Bg_minusTimes g o o_limbs a1 a1_limbs (.ref o_limbs) o_sizeq o_limbs_cq (.ref a1_limbs) a1_size a1_limbs_c)) S E hS hP hD (c_Bg_limb l z D g a1 a1_limbs a1_size a1_limbs_c v5 u17 hc17) cal_Bg_limb wd_527 wd_528 wd_526 rfl [2, 3] rfl rfl rfl (gx_rc E hP 2 rfl rfl) rfl hl.1 rfl d_Bg_minusTimes_17 ⟨Nat.zero_le _, Nat.zero_le _⟩ rfl (fun H locs hS hP hD => ?_)
        refine lv_iload_n S.1 S.2.1 d_Bg_minusTimes_20 rfl (lv_at hl 2 rfl) ?_
        refine lv_i2l S.1 S.2.1 d_Bg_minusTimes_21 rfl ?_
        refine lv_lmul S.1 S.2.1 d_Bg_minusTimes_22 ?_
        refine lv_lload_n S.1 S.2.1 d_Bg_minusTimes_23 rfl (lv_at hl 3 rfl) ?_
        refine lv_ladd S.1 S.2.1 d_Bg_minusTimes_24 ?_
        refine lv_lstore (lv' := [(6, .long ((u17 * v2.toInt64) + v3)), (0, .ref o), (1, .ref a1), (2, .int v2), (3, .long v3), (5, .int v5)]) S.1 S.2.1 d_Bg_minusTimes_25 hl (by decide) rfl (fun ls hl => ?_)
        refine lv_aload_n S.1 S.2.1 d_Bg_minusTimes_27 rfl (lv_at hl 1 rfl) ?_
        refine gx_gf (v := .ref o_limbs) S E hP 0 rfl rfl i_Bg 0 rfl wd_106 ⟨rfl, rfl, rfl⟩ rfl d_Bg_minusTimes_28 ?_
        refine lv_iload S.1 S.2.1 d_Bg_minusTimes_31 (lv_at hl 5 rfl) ?_
        obtain ⟨hin, hf⟩ := gx_chk hf
        refine va_iald S.1 S.2.1 E.1.1 hP 1 0 rfl rfl (gx_okv hin) d_Bg_minusTimes_33 ?_
        refine lv_i2l S.1 S.2.1 d_Bg_minusTimes_34 rfl ?_
        refine lv_ldc2 (v := 4294967295) S.1 S.2.1 S.2.2.2.1 (S.2.2.2.2 _ wd_520) d_Bg_minusTimes_35 ?_
        refine lv_land S.1 S.2.1 d_Bg_minusTimes_38 ?_
        refine lv_lload S.1 S.2.1 d_Bg_minusTimes_39 (lv_at hl 0 rfl) ?_
        refine lv_ldc2 (v := 4294967295) S.1 S.2.1 S.2.2.2.1 (S.2.2.2.2 _ wd_520) d_Bg_minusTimes_41 ?_
        refine lv_land S.1 S.2.1 d_Bg_minusTimes_44 ?_
        refine lv_lsub S.1 S.2.1 d_Bg_minusTimes_45 ?_
        refine lv_lstore (lv' := [(8, .long ((((o_limbs_cq v5.toNatClampNeg).toInt64) &&& (4294967295 : Int64)) - (((u17 * v2.toInt64) + v3) &&& (4294967295 : Int64)))), (6, .long ((u17 * v2.toInt64) + v3)), (0, .ref o), (1, .ref a1), (2, .int v2), (3, .long v3), (5, .int v5)]) S.1 S.2.1 d_Bg_minusTimes_46 hl (by decide) rfl (fun ls hl => ?_)
        refine lv_aload_n S.1 S.2.1 d_Bg_minusTimes_48 rfl (lv_at hl 2 rfl) ?_
        refine gx_gf (v := .ref o_limbs) S E hP 0 rfl rfl i_Bg 0 rfl wd_106 ⟨rfl, rfl, rfl⟩ rfl d_Bg_minusTimes_49 ?_
        refine lv_iload S.1 S.2.1 d_Bg_minusTimes_52 (lv_at hl 6 rfl) ?_
        refine lv_lload S.1 S.2.1 d_Bg_minusTimes_54 (lv_at hl 0 rfl) ?_
        refine lv_l2i S.1 S.2.1 d_Bg_minusTimes_56 rfl ?_
        obtain ⟨hin, hf⟩ := gx_chk hf
        refine gx_iast (ws2 := (ww_Bg_minusTimes g o o_limbs a1 a1_limbs (.ref o_limbs) o_sizeq (upd o_limbs_cq v5.toNatClampNeg (((((o_limbs_cq v5.toNatClampNeg).toInt64) &&& (4294967295 : Int64)) - (((u17 * v2.toInt64) + v3) &&& (4294967295 : Int64))).toInt32)) (.ref a1_limbs) a1_size a1_limbs_c)) S E hS hP hD 1 0 rfl rfl hin d_Bg_minusTimes_57 rfl (fun H locs hS hP hD => ?_)
        refine lv_lload S.1 S.2.1 d_Bg_minusTimes_58 (lv_at hl 1 rfl) ?_
        refine lv_bipush (v := 32) S.1 S.2.1 d_Bg_minusTimes_60 (by decide) ?_
        refine lv_lushr S.1 S.2.1 d_Bg_minusTimes_62 rfl ?_
        refine lv_lload S.1 S.2.1 d_Bg_minusTimes_63 (lv_at hl 0 rfl) ?_
        refine lv_lconst (v := 0) S.1 S.2.1 d_Bg_minusTimes_65 (by decide) ?_
        refine W.lcmp S.1 S.2.1 d_Bg_minusTimes_66 ?_
        refine lv_if_ge (tgt := 74) S.1 S.2.1 d_Bg_minusTimes_67 (by decide) (fun h => ?_) (fun h => ?_)
        ·
          have h : (0 : Int64) ≤ ((((o_limbs_cq v5.toNatClampNeg).toInt64) &&& (4294967295 : Int64)) - (((u17 * v2.toInt64) + v3) &&& (4294967295 : Int64))) := (lg_cmp_ge _ _).mp h
          have hf := gx_ifp h hf
          refine lv_iconst (v := 0) S.1 S.2.1 d_Bg_minusTimes_74 (by decide) ?_
          exact c_75 (fun v2 v3 v5 o_sizeq o_limbs_cq a1_size a1_limbs_c => f_Bg_minusTimes_5 n v2 v3 v5 o_sizeq o_limbs_cq a1_size a1_limbs_c) ih v2 v5 (0 : Int32) ((((u17 * v2.toInt64) + v3).toUInt64 >>> ((32 : Int32).toInt64.toUInt64 &&& Int64.toUInt64 63)).toInt64) o_sizeq (upd o_limbs_cq v5.toNatClampNeg (((((o_limbs_cq v5.toNatClampNeg).toInt64) &&& (4294967295 : Int64)) - (((u17 * v2.toInt64) + v3) &&& (4294967295 : Int64))).toInt32)) ls _ _ (lv_sub hl [2, 3, 4, 6] rfl) hS hP hD hf
        ·
          have h : ¬ (0 : Int64) ≤ ((((o_limbs_cq v5.toNatClampNeg).toInt64) &&& (4294967295 : Int64)) - (((u17 * v2.toInt64) + v3) &&& (4294967295 : Int64))) := fun q => h ((lg_cmp_ge _ _).mpr q)
          have hf := gx_ifn h hf
          refine lv_iconst (v := 1) S.1 S.2.1 d_Bg_minusTimes_70 (by decide) ?_
          refine lv_goto (tgt := 75) S.1 S.2.1 d_Bg_minusTimes_71 (by decide) ?_
          exact c_75 (fun v2 v3 v5 o_sizeq o_limbs_cq a1_size a1_limbs_c => f_Bg_minusTimes_5 n v2 v3 v5 o_sizeq o_limbs_cq a1_size a1_limbs_c) ih v2 v5 (1 : Int32) ((((u17 * v2.toInt64) + v3).toUInt64 >>> ((32 : Int32).toInt64.toUInt64 &&& Int64.toUInt64 63)).toInt64) o_sizeq (upd o_limbs_cq v5.toNatClampNeg (((((o_limbs_cq v5.toNatClampNeg).toInt64) &&& (4294967295 : Int64)) - (((u17 * v2.toInt64) + v3) &&& (4294967295 : Int64))).toInt32)) ls _ _ (lv_sub hl [2, 3, 4, 6] rfl) hS hP hD hf
  have hf : (f_Bg_minusTimes_5 gx_fu a2 (0 : Int64) (0 : Int32) o_size o_limbs_c a1_size a1_limbs_c) = some r := hf
  refine lv_lconst (v := 0) S.1 S.2.1 d_Bg_minusTimes_0 (by decide) ?_
  refine lv_lstore_n (lv' := [(3, .long (0 : Int64)), (0, .ref o), (1, .ref a1), (2, .int a2)]) S.1 S.2.1 d_Bg_minusTimes_1 rfl hl (by decide) rfl (fun ls hl => ?_)
  refine lv_iconst (v := 0) S.1 S.2.1 d_Bg_minusTimes_2 (by decide) ?_
  refine lv_istore (lv' := [(5, .int (0 : Int32)), (3, .long (0 : Int64)), (0, .ref o), (1, .ref a1), (2, .int a2)]) S.1 S.2.1 d_Bg_minusTimes_3 hl (by decide) rfl (fun ls hl => ?_)
  exact c_5 gx_fu a2 (0 : Int64) (0 : Int32) o_size o_limbs_c ls _ _ (lv_sub hl [2, 3, 4, 1, 0] rfl) hS hP hD hf
theorem d_Bg_divideByBillion_0 : decode b_Bg_divideByBillion 0 = .ok (.lconst 0, 1) := by decide +kernel
theorem d_Bg_divideByBillion_1 : decode b_Bg_divideByBillion 1 = .ok (.lstore_n 1, 1) := by decide +kernel
theorem d_Bg_divideByBillion_2 : decode b_Bg_divideByBillion 2 = .ok (.aload_n 0, 1) := by decide +kernel
theorem d_Bg_divideByBillion_3 : decode b_Bg_divideByBillion 3 = .ok (.getfield 13, 3) := by decide +kernel
theorem d_Bg_divideByBillion_6 : decode b_Bg_divideByBillion 6 = .ok (.iconst 1, 1) := by decide +kernel
theorem d_Bg_divideByBillion_7 : decode b_Bg_divideByBillion 7 = .ok (.isub, 1) := by decide +kernel
theorem d_Bg_divideByBillion_8 : decode b_Bg_divideByBillion 8 = .ok (.istore_n 3, 1) := by decide +kernel
theorem d_Bg_divideByBillion_9 : decode b_Bg_divideByBillion 9 = .ok (.iload_n 3, 1) := by decide +kernel
theorem d_Bg_divideByBillion_10 : decode b_Bg_divideByBillion 10 = .ok (.ifCond .lt 47, 3) := by decide +kernel
theorem d_Bg_divideByBillion_13 : decode b_Bg_divideByBillion 13 = .ok (.lload_n 1, 1) := by decide +kernel
theorem d_Bg_divideByBillion_14 : decode b_Bg_divideByBillion 14 = .ok (.bipush 32, 2) := by decide +kernel
theorem d_Bg_divideByBillion_16 : decode b_Bg_divideByBillion 16 = .ok (.lshl, 1) := by decide +kernel
theorem d_Bg_divideByBillion_17 : decode b_Bg_divideByBillion 17 = .ok (.aload_n 0, 1) := by decide +kernel
theorem d_Bg_divideByBillion_18 : decode b_Bg_divideByBillion 18 = .ok (.getfield 9, 3) := by decide +kernel
theorem d_Bg_divideByBillion_21 : decode b_Bg_divideByBillion 21 = .ok (.iload_n 3, 1) := by decide +kernel
theorem d_Bg_divideByBillion_22 : decode b_Bg_divideByBillion 22 = .ok (.iaload, 1) := by decide +kernel
theorem d_Bg_divideByBillion_23 : decode b_Bg_divideByBillion 23 = .ok (.i2l, 1) := by decide +kernel
theorem d_Bg_divideByBillion_24 : decode b_Bg_divideByBillion 24 = .ok (.ldc2_w 17, 3) := by decide +kernel
theorem d_Bg_divideByBillion_27 : decode b_Bg_divideByBillion 27 = .ok (.land, 1) := by decide +kernel
theorem d_Bg_divideByBillion_28 : decode b_Bg_divideByBillion 28 = .ok (.lor, 1) := by decide +kernel
theorem d_Bg_divideByBillion_29 : decode b_Bg_divideByBillion 29 = .ok (.lstore 4, 2) := by decide +kernel
theorem d_Bg_divideByBillion_31 : decode b_Bg_divideByBillion 31 = .ok (.aload_n 0, 1) := by decide +kernel
theorem d_Bg_divideByBillion_32 : decode b_Bg_divideByBillion 32 = .ok (.getfield 9, 3) := by decide +kernel
theorem d_Bg_divideByBillion_35 : decode b_Bg_divideByBillion 35 = .ok (.iload_n 3, 1) := by decide +kernel
theorem d_Bg_divideByBillion_36 : decode b_Bg_divideByBillion 36 = .ok (.lload 4, 2) := by decide +kernel
theorem d_Bg_divideByBillion_38 : decode b_Bg_divideByBillion 38 = .ok (.ldc2_w 62, 3) := by decide +kernel
theorem d_Bg_divideByBillion_41 : decode b_Bg_divideByBillion 41 = .ok (.ldiv, 1) := by decide +kernel
theorem d_Bg_divideByBillion_42 : decode b_Bg_divideByBillion 42 = .ok (.l2i, 1) := by decide +kernel
theorem d_Bg_divideByBillion_43 : decode b_Bg_divideByBillion 43 = .ok (.iastore, 1) := by decide +kernel
theorem d_Bg_divideByBillion_44 : decode b_Bg_divideByBillion 44 = .ok (.lload 4, 2) := by decide +kernel
theorem d_Bg_divideByBillion_46 : decode b_Bg_divideByBillion 46 = .ok (.ldc2_w 62, 3) := by decide +kernel
theorem d_Bg_divideByBillion_49 : decode b_Bg_divideByBillion 49 = .ok (.lrem, 1) := by decide +kernel
theorem d_Bg_divideByBillion_50 : decode b_Bg_divideByBillion 50 = .ok (.lstore_n 1, 1) := by decide +kernel
theorem d_Bg_divideByBillion_51 : decode b_Bg_divideByBillion 51 = .ok (.iinc 3 (-1), 3) := by decide +kernel
theorem d_Bg_divideByBillion_54 : decode b_Bg_divideByBillion 54 = .ok (.goto (-45), 3) := by decide +kernel
theorem d_Bg_divideByBillion_57 : decode b_Bg_divideByBillion 57 = .ok (.aload_n 0, 1) := by decide +kernel
theorem d_Bg_divideByBillion_58 : decode b_Bg_divideByBillion 58 = .ok (.invokevirtual 25, 3) := by decide +kernel
theorem d_Bg_divideByBillion_61 : decode b_Bg_divideByBillion 61 = .ok (.lload_n 1, 1) := by decide +kernel
theorem d_Bg_divideByBillion_62 : decode b_Bg_divideByBillion 62 = .ok (.l2i, 1) := by decide +kernel
theorem d_Bg_divideByBillion_63 : decode b_Bg_divideByBillion 63 = .ok (.ireturn, 1) := by decide +kernel
theorem cal_Bg_divideByBillion : gx_cal y_Bg_divideByBillion b_Bg_divideByBillion 6 (some .int) 0 := ⟨wd_983, wd_5, by decide +kernel⟩
def ww_Bg_divideByBillion (g : Nat → ClassId) (o : Nat) (o_limbs : Nat) (x_o_limbs : Value) (x_o_size : Int32) (y_o_limbs : Nat → Int32) : va_W := [(o, .inr (1, [x_o_limbs, .int x_o_size])), (o_limbs, .inl (g 0, 96, .inl y_o_limbs))]
def f_Bg_divideByBillion_9 : Nat → Int64 → Int32 → Int32 → (Nat → Int32) → Option (Int32 × Int32 × (Nat → Int32))
  | 0, _, _, _, _ => none
  | n + 1, v1, v3, o_sizeq, o_limbs_cq => if v3 < 0 then ((f_Bg_trim o_sizeq o_limbs_cq).bind fun u58 => some (v1.toInt32, u58, o_limbs_cq)) else (if gx_ok v3 96 = true then if gx_ok v3 96 = true then f_Bg_divideByBillion_9 n (((v1 <<< ((32 : Int32).toInt64 &&& 63)) ||| (((o_limbs_cq v3.toNatClampNeg).toInt64) &&& (4294967295 : Int64))) - ((v1 <<< ((32 : Int32).toInt64 &&& 63)) ||| (((o_limbs_cq v3.toNatClampNeg).toInt64) &&& (4294967295 : Int64))) / (1000000000 : Int64) * (1000000000 : Int64)) (v3 + (-1)) o_sizeq (upd o_limbs_cq v3.toNatClampNeg ((((v1 <<< ((32 : Int32).toInt64 &&& 63)) ||| (((o_limbs_cq v3.toNatClampNeg).toInt64) &&& (4294967295 : Int64))) / (1000000000 : Int64)).toInt32)) else none else none)
def f_Bg_divideByBillion (o_size : Int32) (o_limbs_c : Nat → Int32) : Option (Int32 × Int32 × (Nat → Int32)) := f_Bg_divideByBillion_9 gx_fu (0 : Int64) (o_size - (1 : Int32)) o_size o_limbs_c
set_option maxHeartbeats 4000000 in
set_option maxRecDepth 100000 in
theorem c_Bg_divideByBillion (l : Launch) (z : State) (D : va_G) (g : Nat → ClassId) (o : Nat) (o_limbs : Nat) (o_size : Int32) (o_limbs_c : Nat → Int32) (r : Int32 × Int32 × (Nat → Int32)) (hf : f_Bg_divideByBillion o_size o_limbs_c = some r) : gx_Mi l z D g y_Bg_divideByBillion b_Bg_divideByBillion 6 .int ({ frames := 1, cells := 0, slots := 0, locals := 21 } : Room) [.ref o] (ww_Bg_divideByBillion g o o_limbs (.ref o_limbs) o_size o_limbs_c) (ww_Bg_divideByBillion g o o_limbs (.ref o_limbs) r.2.1 r.2.2) r.1 := by
  refine gx_go (by decide +kernel) rfl ?_
  intro p e s m below meth c ls S hr hlk hnm E hP hD hl
  have hS : va_S (va_A (ww_Bg_divideByBillion g o o_limbs (.ref o_limbs) o_size o_limbs_c) s.heap.size) s.heap s.heap [] := va_S.rf
  have hl : lv_has ls 6 [(0, .ref o)] := hl
  have c_9 : ∀ n : Nat, ∀ (v1 : Int64) (v3 : Int32) (o_sizeq : Int32) (o_limbs_cq : Nat → Int32) (ls : Array Slot) (H : Heap) (locs : List Loc), lv_has ls 6 [(0, .ref o), (1, .long v1), (3, .int v3)] → va_S (va_A (ww_Bg_divideByBillion g o o_limbs (.ref o_limbs) o_size o_limbs_c) s.heap.size) s.heap H locs → va_P D vwC (ww_Bg_divideByBillion g o o_limbs (.ref o_limbs) o_sizeq o_limbs_cq) H → va_D (va_A (ww_Bg_divideByBillion g o o_limbs (.ref o_limbs) o_size o_limbs_c) s.heap.size) (ww_Bg_divideByBillion g o o_limbs (.ref o_limbs) o_sizeq o_limbs_cq) → (f_Bg_divideByBillion_9 n v1 v3 o_sizeq o_limbs_cq) = some r → W p l e ({ frames := 1, cells := 0, slots := 0, locals := 21 } : Room) s m ([.ref o] : List Value).toArray below meth c H locs 0 0 (MQ below (gx_Qi D (ww_Bg_divideByBillion g o o_limbs (.ref o_limbs) o_size o_limbs_c) (ww_Bg_divideByBillion g o o_limbs (.ref o_limbs) r.2.1 r.2.2) r.1 s.heap.size) ([.ref o] : List Value).toArray s 0 0 (va_A (ww_Bg_divideByBillion g o o_limbs (.ref o_limbs) o_size o_limbs_c) s.heap.size)) (F0 m 9 ls []) := by
    intro n
    induction n with
    | zero => intro v1 v3 o_sizeq o_limbs_cq ls H locs hl hS hP hD hf; cases hf
    | succ n ih =>
      intro v1 v3 o_sizeq o_limbs_cq ls H locs hl hS hP hD hf
      have hf : (if v3 < 0 then ((f_Bg_trim o_sizeq o_limbs_cq).bind fun u58 => some (v1.toInt32, u58, o_limbs_cq)) else (if gx_ok v3 96 = true then if gx_ok v3 96 = true then f_Bg_divideByBillion_9 n (((v1 <<< ((32 : Int32).toInt64 &&& 63)) ||| (((o_limbs_cq v3.toNatClampNeg).toInt64) &&& (4294967295 : Int64))) - ((v1 <<< ((32 : Int32).toInt64 &&& 63)) ||| (((o_limbs_cq v3.toNatClampNeg).toInt64) &&& (4294967295 : Int64))) / (1000000000 : Int64) * (1000000000 : Int64)) (v3 + (-1)) o_sizeq (upd o_limbs_cq v3.toNatClampNeg ((((v1 <<< ((32 : Int32).toInt64 &&& 63)) ||| (((o_limbs_cq v3.toNatClampNeg).toInt64) &&& (4294967295 : Int64))) / (1000000000 : Int64)).toInt32)) else none else none)) = some r := hf
      refine lv_iload_n S.1 S.2.1 d_Bg_divideByBillion_9 rfl (lv_at hl 2 rfl) ?_
      refine lv_if_lt (tgt := 57) S.1 S.2.1 d_Bg_divideByBillion_10 (by decide) (fun h => ?_) (fun h => ?_)
      ·
        have hf := gx_ifp h hf
        refine lv_aload_n S.1 S.2.1 d_Bg_divideByBillion_57 rfl (lv_at hl 0 rfl) ?_
        obtain ⟨u58, hc58, hf⟩ := gx_bnd hf
        refine gx_Vv (ws2 := (ww_Bg_divideByBillion g o o_limbs (.ref o_limbs) u58 o_limbs_cq)) S E hS hP hD (c_Bg_trim l z D g o o_limbs o_sizeq o_limbs_cq u58 hc58) cal_Bg_trim wd_508 ws_1 wd_506 rfl [0, 1] rfl rfl rfl (gx_rc E hP 0 rfl rfl) rfl hl.1 rfl d_Bg_divideByBillion_58 ⟨Nat.zero_le _, Nat.zero_le _⟩ rfl (fun H locs hS hP hD => ?_)
        refine lv_lload_n S.1 S.2.1 d_Bg_divideByBillion_61 rfl (lv_at hl 1 rfl) ?_
        refine lv_l2i S.1 S.2.1 d_Bg_divideByBillion_62 rfl ?_
        obtain rfl := Option.some.inj hf
        exact gx_ri S hr hlk hS hP hD d_Bg_divideByBillion_63
      ·
        have hf := gx_ifn h hf
        refine lv_lload_n S.1 S.2.1 d_Bg_divideByBillion_13 rfl (lv_at hl 1 rfl) ?_
        refine lv_bipush (v := 32) S.1 S.2.1 d_Bg_divideByBillion_14 (by decide) ?_
        refine lv_lshl S.1 S.2.1 d_Bg_divideByBillion_16 rfl ?_
        refine lv_aload_n S.1 S.2.1 d_Bg_divideByBillion_17 rfl (lv_at hl 0 rfl) ?_
        refine gx_gf (v := .ref o_limbs) S E hP 0 rfl rfl i_Bg 0 rfl wd_106 ⟨rfl, rfl, rfl⟩ rfl d_Bg_divideByBillion_18 ?_
        refine lv_iload_n S.1 S.2.1 d_Bg_divideByBillion_21 rfl (lv_at hl 2 rfl) ?_
        obtain ⟨hin, hf⟩ := gx_chk hf
        refine va_iald S.1 S.2.1 E.1.1 hP 1 0 rfl rfl (gx_okv hin) d_Bg_divideByBillion_22 ?_
        refine lv_i2l S.1 S.2.1 d_Bg_divideByBillion_23 rfl ?_
        refine lv_ldc2 (v := 4294967295) S.1 S.2.1 S.2.2.2.1 (S.2.2.2.2 _ wd_520) d_Bg_divideByBillion_24 ?_
        refine lv_land S.1 S.2.1 d_Bg_divideByBillion_27 ?_
        refine lv_lor S.1 S.2.1 d_Bg_divideByBillion_28 ?_
        refine lv_lstore (lv' := [(4, .long ((v1 <<< ((32 : Int32).toInt64 &&& 63)) ||| (((o_limbs_cq v3.toNatClampNeg).toInt64) &&& (4294967295 : Int64)))), (0, .ref o), (1, .long v1), (3, .int v3)]) S.1 S.2.1 d_Bg_divideByBillion_29 hl (by decide) rfl (fun ls hl => ?_)
        refine lv_aload_n S.1 S.2.1 d_Bg_divideByBillion_31 rfl (lv_at hl 1 rfl) ?_
        refine gx_gf (v := .ref o_limbs) S E hP 0 rfl rfl i_Bg 0 rfl wd_106 ⟨rfl, rfl, rfl⟩ rfl d_Bg_divideByBillion_32 ?_
        refine lv_iload_n S.1 S.2.1 d_Bg_divideByBillion_35 rfl (lv_at hl 3 rfl) ?_
        refine lv_lload S.1 S.2.1 d_Bg_divideByBillion_36 (lv_at hl 0 rfl) ?_
        refine lv_ldc2 (v := 1000000000) S.1 S.2.1 S.2.2.2.1 (S.2.2.2.2 _ wd_984) d_Bg_divideByBillion_38 ?_
        refine lv_ldiv S.1 S.2.1 d_Bg_divideByBillion_41 (by decide) ?_
        refine lv_l2i S.1 S.2.1 d_Bg_divideByBillion_42 rfl ?_
        obtain ⟨hin, hf⟩ := gx_chk hf
        refine gx_iast (ws2 := (ww_Bg_divideByBillion g o o_limbs (.ref o_limbs) o_sizeq (upd o_limbs_cq v3.toNatClampNeg ((((v1 <<< ((32 : Int32).toInt64 &&& 63)) ||| (((o_limbs_cq v3.toNatClampNeg).toInt64) &&& (4294967295 : Int64))) / (1000000000 : Int64)).toInt32)))) S E hS hP hD 1 0 rfl rfl hin d_Bg_divideByBillion_43 rfl (fun H locs hS hP hD => ?_)
        refine lv_lload S.1 S.2.1 d_Bg_divideByBillion_44 (lv_at hl 0 rfl) ?_
        refine lv_ldc2 (v := 1000000000) S.1 S.2.1 S.2.2.2.1 (S.2.2.2.2 _ wd_984) d_Bg_divideByBillion_46 ?_
        refine lv_lrem S.1 S.2.1 d_Bg_divideByBillion_49 (by decide) ?_
        refine lv_lstore_n (lv' := [(1, .long (((v1 <<< ((32 : Int32).toInt64 &&& 63)) ||| (((o_limbs_cq v3.toNatClampNeg).toInt64) &&& (4294967295 : Int64))) - ((v1 <<< ((32 : Int32).toInt64 &&& 63)) ||| (((o_limbs_cq v3.toNatClampNeg).toInt64) &&& (4294967295 : Int64))) / (1000000000 : Int64) * (1000000000 : Int64))), (4, .long ((v1 <<< ((32 : Int32).toInt64 &&& 63)) ||| (((o_limbs_cq v3.toNatClampNeg).toInt64) &&& (4294967295 : Int64)))), (0, .ref o), (3, .int v3)]) S.1 S.2.1 d_Bg_divideByBillion_50 rfl hl (by decide) rfl (fun ls hl => ?_)
        refine lv_iinc (v := v3 + (-1)) (lv' := [(3, .int (v3 + (-1))), (1, .long (((v1 <<< ((32 : Int32).toInt64 &&& 63)) ||| (((o_limbs_cq v3.toNatClampNeg).toInt64) &&& (4294967295 : Int64))) - ((v1 <<< ((32 : Int32).toInt64 &&& 63)) ||| (((o_limbs_cq v3.toNatClampNeg).toInt64) &&& (4294967295 : Int64))) / (1000000000 : Int64) * (1000000000 : Int64))), (4, .long ((v1 <<< ((32 : Int32).toInt64 &&& 63)) ||| (((o_limbs_cq v3.toNatClampNeg).toInt64) &&& (4294967295 : Int64)))), (0, .ref o)]) S.1 S.2.1 d_Bg_divideByBillion_51 hl (k := 3) rfl rfl (by decide) rfl (fun ls hl => ?_)
        refine lv_goto (tgt := 9) S.1 S.2.1 d_Bg_divideByBillion_54 (by decide) ?_
        exact ih (((v1 <<< ((32 : Int32).toInt64 &&& 63)) ||| (((o_limbs_cq v3.toNatClampNeg).toInt64) &&& (4294967295 : Int64))) - ((v1 <<< ((32 : Int32).toInt64 &&& 63)) ||| (((o_limbs_cq v3.toNatClampNeg).toInt64) &&& (4294967295 : Int64))) / (1000000000 : Int64) * (1000000000 : Int64)) (v3 + (-1)) o_sizeq (upd o_limbs_cq v3.toNatClampNeg ((((v1 <<< ((32 : Int32).toInt64 &&& 63)) ||| (((o_limbs_cq v3.toNatClampNeg).toInt64) &&& (4294967295 : Int64))) / (1000000000 : Int64)).toInt32)) ls _ _ (lv_sub hl [3, 1, 0] rfl) hS hP hD hf
  have hf : (f_Bg_divideByBillion_9 gx_fu (0 : Int64) (o_size - (1 : Int32)) o_size o_limbs_c) = some r := hf
  refine lv_lconst (v := 0) S.1 S.2.1 d_Bg_divideByBillion_0 (by decide) ?_
  refine lv_lstore_n (lv' := [(1, .long (0 : Int64)), (0, .ref o)]) S.1 S.2.1 d_Bg_divideByBillion_1 rfl hl (by decide) rfl (fun ls hl => ?_)
  refine lv_aload_n S.1 S.2.1 d_Bg_divideByBillion_2 rfl (lv_at hl 1 rfl) ?_
  refine gx_gf (v := .int o_size) S E hP 0 rfl rfl i_Bg 1 rfl wd_107 ⟨rfl, rfl, rfl⟩ rfl d_Bg_divideByBillion_3 ?_
  refine lv_iconst (v := 1) S.1 S.2.1 d_Bg_divideByBillion_6 (by decide) ?_
  refine lv_isub S.1 S.2.1 d_Bg_divideByBillion_7 ?_
  refine lv_istore_n (lv' := [(3, .int (o_size - (1 : Int32))), (1, .long (0 : Int64)), (0, .ref o)]) S.1 S.2.1 d_Bg_divideByBillion_8 rfl hl (by decide) rfl (fun ls hl => ?_)
  exact c_9 gx_fu (0 : Int64) (o_size - (1 : Int32)) o_size o_limbs_c ls _ _ (lv_sub hl [2, 1, 0] rfl) hS hP hD hf
