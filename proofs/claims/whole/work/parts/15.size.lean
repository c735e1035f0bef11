theorem d_Sz_fractionMask_0 : decode b_Sz_fractionMask 0 = .ok (.lconst 1, 1) := by decide +kernel
theorem d_Sz_fractionMask_1 : decode b_Sz_fractionMask 1 = .ok (.aload_n 0, 1) := by decide +kernel
theorem d_Sz_fractionMask_2 : decode b_Sz_fractionMask 2 = .ok (.getfield 29, 3) := by decide +kernel
theorem d_Sz_fractionMask_5 : decode b_Sz_fractionMask 5 = .ok (.iconst 1, 1) := by decide +kernel
theorem d_Sz_fractionMask_6 : decode b_Sz_fractionMask 6 = .ok (.isub, 1) := by decide +kernel
theorem d_Sz_fractionMask_7 : decode b_Sz_fractionMask 7 = .ok (.lshl, 1) := by decide +kernel
theorem d_Sz_fractionMask_8 : decode b_Sz_fractionMask 8 = .ok (.lconst 1, 1) := by decide +kernel
theorem d_Sz_fractionMask_9 : decode b_Sz_fractionMask 9 = .ok (.lsub, 1) := by decide +kernel
theorem d_Sz_fractionMask_10 : decode b_Sz_fractionMask 10 = .ok (.lreturn, 1) := by decide +kernel
theorem cal_Sz_fractionMask : gx_cal y_Sz_fractionMask b_Sz_fractionMask 1 (some .long) 0 := ⟨wd_405, wd_8, by decide +kernel⟩
def ww_Sz_fractionMask (g : Nat → ClassId)  : va_W := []
def f_Sz_fractionMask (o : Nat) : Option (Int64) := if o < 2 then some (((1 : Int64) <<< ((((gx_sz 0).getD o 0) - (1 : Int32)).toInt64 &&& 63)) - (1 : Int64)) else none
set_option maxHeartbeats 4000000 in
set_option maxRecDepth 100000 in
theorem c_Sz_fractionMask (l : Launch) (z : State) (D : va_G) (g : Nat → ClassId) (o : Nat) (r : Int64) (hf : f_Sz_fractionMask o = some r) : gx_Ml l z D g y_Sz_fractionMask b_Sz_fractionMask 1 .long ({ frames := 0, cells := 0, slots := 0, locals := 0 } : Room) [.ref (g (11 + o))] (ww_Sz_fractionMask g ) (ww_Sz_fractionMask g ) r := by
  refine gx_go (by decide +kernel) rfl ?_
  intro p e s m below meth c ls S hr hlk hnm E hP hD hl
  have hS : va_S (va_A (ww_Sz_fractionMask g ) s.heap.size) s.heap s.heap [] := va_S.rf
  have hl : lv_has ls 1 [(0, .ref (g (11 + o)))] := hl
  have hf : (if o < 2 then some (((1 : Int64) <<< ((((gx_sz 0).getD o 0) - (1 : Int32)).toInt64 &&& 63)) - (1 : Int64)) else none) = some r := hf
  refine lv_lconst (v := 1) S.1 S.2.1 d_Sz_fractionMask_0 (by decide) ?_
  refine lv_aload_n S.1 S.2.1 d_Sz_fractionMask_1 rfl (lv_at hl 0 rfl) ?_
  obtain ⟨hsm, hf⟩ := gx_chk hf
  refine vk_getf (v := .int ((gx_sz 0).getD o 0)) S.1 S.2.1 (gx_szF E hsm szm_0) hS S.2.2.2.1 (S.2.2.2.2 _ wd_1838) (fun _ h => h) d_Sz_fractionMask_2 ?_
  refine lv_iconst (v := 1) S.1 S.2.1 d_Sz_fractionMask_5 (by decide) ?_
  refine lv_isub S.1 S.2.1 d_Sz_fractionMask_6 ?_
  refine lv_lshl S.1 S.2.1 d_Sz_fractionMask_7 rfl ?_
  refine lv_lconst (v := 1) S.1 S.2.1 d_Sz_fractionMask_8 (by decide) ?_
  refine lv_lsub S.1 S.2.1 d_Sz_fractionMask_9 ?_
  obtain rfl := Option.some.inj hf
  exact gx_rl S hr hlk hS hP hD d_Sz_fractionMask_10
theorem d_Sz_exponentMask_0 : decode b_Sz_exponentMask 0 = .ok (.aload_n 0, 1) := by decide +kernel
theorem d_Sz_exponentMask_1 : decode b_Sz_exponentMask 1 = .ok (.getfield 36, 3) := by decide +kernel
theorem d_Sz_exponentMask_4 : decode b_Sz_exponentMask 4 = .ok (.aload_n 0, 1) := by decide +kernel
theorem d_Sz_exponentMask_5 : decode b_Sz_exponentMask 5 = .ok (.getfield 33, 3) := by decide +kernel
theorem d_Sz_exponentMask_8 : decode b_Sz_exponentMask 8 = .ok (.isub, 1) := by decide +kernel
theorem d_Sz_exponentMask_9 : decode b_Sz_exponentMask 9 = .ok (.iconst 2, 1) := by decide +kernel
theorem d_Sz_exponentMask_10 : decode b_Sz_exponentMask 10 = .ok (.iadd, 1) := by decide +kernel
theorem d_Sz_exponentMask_11 : decode b_Sz_exponentMask 11 = .ok (.ireturn, 1) := by decide +kernel
theorem cal_Sz_exponentMask : gx_cal y_Sz_exponentMask b_Sz_exponentMask 1 (some .int) 0 := ⟨wd_409, wd_8, by decide +kernel⟩
def ww_Sz_exponentMask (g : Nat → ClassId)  : va_W := []
def f_Sz_exponentMask (o : Nat) : Option (Int32) := if o < 2 then if o < 2 then some ((((gx_sz 2).getD o 0) - ((gx_sz 1).getD o 0)) + (2 : Int32)) else none else none
set_option maxHeartbeats 4000000 in
set_option maxRecDepth 100000 in
theorem c_Sz_exponentMask (l : Launch) (z : State) (D : va_G) (g : Nat → ClassId) (o : Nat) (r : Int32) (hf : f_Sz_exponentMask o = some r) : gx_Mi l z D g y_Sz_exponentMask b_Sz_exponentMask 1 .int ({ frames := 0, cells := 0, slots := 0, locals := 0 } : Room) [.ref (g (11 + o))] (ww_Sz_exponentMask g ) (ww_Sz_exponentMask g ) r := by
  refine gx_go (by decide +kernel) rfl ?_
  intro p e s m below meth c ls S hr hlk hnm E hP hD hl
  have hS : va_S (va_A (ww_Sz_exponentMask g ) s.heap.size) s.heap s.heap [] := va_S.rf
  have hl : lv_has ls 1 [(0, .ref (g (11 + o)))] := hl
  have hf : (if o < 2 then if o < 2 then some ((((gx_sz 2).getD o 0) - ((gx_sz 1).getD o 0)) + (2 : Int32)) else none else none) = some r := hf
  refine lv_aload_n S.1 S.2.1 d_Sz_exponentMask_0 rfl (lv_at hl 0 rfl) ?_
  obtain ⟨hsm, hf⟩ := gx_chk hf
  refine vk_getf (v := .int ((gx_sz 2).getD o 0)) S.1 S.2.1 (gx_szF E hsm szm_2) hS S.2.2.2.1 (S.2.2.2.2 _ wd_1840) (fun _ h => h) d_Sz_exponentMask_1 ?_
  refine lv_aload_n S.1 S.2.1 d_Sz_exponentMask_4 rfl (lv_at hl 0 rfl) ?_
  obtain ⟨hsm, hf⟩ := gx_chk hf
  refine vk_getf (v := .int ((gx_sz 1).getD o 0)) S.1 S.2.1 (gx_szF E hsm szm_1) hS S.2.2.2.1 (S.2.2.2.2 _ wd_1841) (fun _ h => h) d_Sz_exponentMask_5 ?_
  refine lv_isub S.1 S.2.1 d_Sz_exponentMask_8 ?_
  refine lv_iconst (v := 2) S.1 S.2.1 d_Sz_exponentMask_9 (by decide) ?_
  refine lv_iadd S.1 S.2.1 d_Sz_exponentMask_10 ?_
  obtain rfl := Option.some.inj hf
  exact gx_ri S hr hlk hS hP hD d_Sz_exponentMask_11
theorem d_Sz_infinity_0 : decode b_Sz_infinity 0 = .ok (.aload_n 0, 1) := by decide +kernel
theorem d_Sz_infinity_1 : decode b_Sz_infinity 1 = .ok (.invokevirtual 42, 3) := by decide +kernel
theorem d_Sz_infinity_4 : decode b_Sz_infinity 4 = .ok (.i2l, 1) := by decide +kernel
theorem d_Sz_infinity_5 : decode b_Sz_infinity 5 = .ok (.aload_n 0, 1) := by decide +kernel
theorem d_Sz_infinity_6 : decode b_Sz_infinity 6 = .ok (.getfield 29, 3) := by decide +kernel
theorem d_Sz_infinity_9 : decode b_Sz_infinity 9 = .ok (.iconst 1, 1) := by decide +kernel
theorem d_Sz_infinity_10 : decode b_Sz_infinity 10 = .ok (.isub, 1) := by decide +kernel
theorem d_Sz_infinity_11 : decode b_Sz_infinity 11 = .ok (.lshl, 1) := by decide +kernel
theorem d_Sz_infinity_12 : decode b_Sz_infinity 12 = .ok (.lreturn, 1) := by decide +kernel
theorem cal_Sz_infinity : gx_cal y_Sz_infinity b_Sz_infinity 1 (some .long) 0 := ⟨wd_864, wd_8, by decide +kernel⟩
def ww_Sz_infinity (g : Nat → ClassId)  : va_W := []
def f_Sz_infinity (o : Nat) : Option (Int64) := if o < 2 then (f_Sz_exponentMask o).bind fun u1 => if o < 2 then some (u1.toInt64 <<< ((((gx_sz 0).getD o 0) - (1 : Int32)).toInt64 &&& 63)) else none else none
set_option maxHeartbeats 4000000 in
set_option maxRecDepth 100000 in
theorem c_Sz_infinity (l : Launch) (z : State) (D : va_G) (g : Nat → ClassId) (o : Nat) (r : Int64) (hf : f_Sz_infinity o = some r) : gx_Ml l z D g y_Sz_infinity b_Sz_infinity 1 .long ({ frames := 1, cells := 0, slots := 0, locals := 20 } : Room) [.ref (g (11 + o))] (ww_Sz_infinity g ) (ww_Sz_infinity g ) r := by
  refine gx_go (by decide +kernel) rfl ?_
  intro p e s m below meth c ls S hr hlk hnm E hP hD hl
  have hS : va_S (va_A (ww_Sz_infinity g ) s.heap.size) s.heap s.heap [] := va_S.rf
  have hl : lv_has ls 1 [(0, .ref (g (11 + o)))] := hl
  have hf : (if o < 2 then (f_Sz_exponentMask o).bind fun u1 => if o < 2 then some (u1.toInt64 <<< ((((gx_sz 0).getD o 0) - (1 : Int32)).toInt64 &&& 63)) else none else none) = some r := hf
  refine lv_aload_n S.1 S.2.1 d_Sz_infinity_0 rfl (lv_at hl 0 rfl) ?_
  obtain ⟨hk1z, hf⟩ := gx_chk hf
  obtain ⟨u1, hc1, hf⟩ := gx_bnd hf
  refine gx_Vi (ws2 := (ww_Sz_infinity g )) S E hS hP hD (c_Sz_exponentMask l z D g o u1 hc1) cal_Sz_exponentMask wd_407 wd_408 wd_865 rfl [] rfl rfl rfl (gx_rcO (gx_szO E hk1z) hS) rfl hl.1 rfl d_Sz_infinity_1 ⟨Nat.zero_le _, Nat.zero_le _⟩ rfl (fun H locs hS hP hD => ?_)
  refine lv_i2l S.1 S.2.1 d_Sz_infinity_4 rfl ?_
  refine lv_aload_n S.1 S.2.1 d_Sz_infinity_5 rfl (lv_at hl 0 rfl) ?_
  obtain ⟨hsm, hf⟩ := gx_chk hf
  refine vk_getf (v := .int ((gx_sz 0).getD o 0)) S.1 S.2.1 (gx_szF E hsm szm_0) hS S.2.2.2.1 (S.2.2.2.2 _ wd_1838) (fun _ h => h) d_Sz_infinity_6 ?_
  refine lv_iconst (v := 1) S.1 S.2.1 d_Sz_infinity_9 (by decide) ?_
  refine lv_isub S.1 S.2.1 d_Sz_infinity_10 ?_
  refine lv_lshl S.1 S.2.1 d_Sz_infinity_11 rfl ?_
  obtain rfl := Option.some.inj hf
  exact gx_rl S hr hlk hS hP hD d_Sz_infinity_12
theorem d_Sz_notANumber_0 : decode b_Sz_notANumber 0 = .ok (.aload_n 0, 1) := by decide +kernel
theorem d_Sz_notANumber_1 : decode b_Sz_notANumber 1 = .ok (.invokevirtual 46, 3) := by decide +kernel
theorem d_Sz_notANumber_4 : decode b_Sz_notANumber 4 = .ok (.lconst 1, 1) := by decide +kernel
theorem d_Sz_notANumber_5 : decode b_Sz_notANumber 5 = .ok (.aload_n 0, 1) := by decide +kernel
theorem d_Sz_notANumber_6 : decode b_Sz_notANumber 6 = .ok (.getfield 29, 3) := by decide +kernel
theorem d_Sz_notANumber_9 : decode b_Sz_notANumber 9 = .ok (.iconst 2, 1) := by decide +kernel
theorem d_Sz_notANumber_10 : decode b_Sz_notANumber 10 = .ok (.isub, 1) := by decide +kernel
theorem d_Sz_notANumber_11 : decode b_Sz_notANumber 11 = .ok (.lshl, 1) := by decide +kernel
theorem d_Sz_notANumber_12 : decode b_Sz_notANumber 12 = .ok (.lor, 1) := by decide +kernel
theorem d_Sz_notANumber_13 : decode b_Sz_notANumber 13 = .ok (.lreturn, 1) := by decide +kernel
theorem cal_Sz_notANumber : gx_cal y_Sz_notANumber b_Sz_notANumber 1 (some .long) 0 := ⟨wd_860, wd_8, by decide +kernel⟩
def ww_Sz_notANumber (g : Nat → ClassId)  : va_W := []
def f_Sz_notANumber (o : Nat) : Option (Int64) := if o < 2 then (f_Sz_infinity o).bind fun u1 => if o < 2 then some (u1 ||| ((1 : Int64) <<< ((((gx_sz 0).getD o 0) - (2 : Int32)).toInt64 &&& 63))) else none else none
set_option maxHeartbeats 4000000 in
set_option maxRecDepth 100000 in
theorem c_Sz_notANumber (l : Launch) (z : State) (D : va_G) (g : Nat → ClassId) (o : Nat) (r : Int64) (hf : f_Sz_notANumber o = some r) : gx_Ml l z D g y_Sz_notANumber b_Sz_notANumber 1 .long ({ frames := 2, cells := 0, slots := 0, locals := 40 } : Room) [.ref (g (11 + o))] (ww_Sz_notANumber g ) (ww_Sz_notANumber g ) r := by
  refine gx_go (by decide +kernel) rfl ?_
  intro p e s m below meth c ls S hr hlk hnm E hP hD hl
  have hS : va_S (va_A (ww_Sz_notANumber g ) s.heap.size) s.heap s.heap [] := va_S.rf
  have hl : lv_has ls 1 [(0, .ref (g (11 + o)))] := hl
  have hf : (if o < 2 then (f_Sz_infinity o).bind fun u1 => if o < 2 then some (u1 ||| ((1 : Int64) <<< ((((gx_sz 0).getD o 0) - (2 : Int32)).toInt64 &&& 63))) else none else none) = some r := hf
  refine lv_aload_n S.1 S.2.1 d_Sz_notANumber_0 rfl (lv_at hl 0 rfl) ?_
  obtain ⟨hk1z, hf⟩ := gx_chk hf
  obtain ⟨u1, hc1, hf⟩ := gx_bnd hf
  refine gx_Vl (ws2 := (ww_Sz_notANumber g )) S E hS hP hD (c_Sz_infinity l z D g o u1 hc1) cal_Sz_infinity wd_862 wd_863 wd_861 rfl [] rfl rfl rfl (gx_rcO (gx_szO E hk1z) hS) rfl hl.1 rfl d_Sz_notANumber_1 ⟨Nat.zero_le _, Nat.zero_le _⟩ rfl (fun H locs hS hP hD => ?_)
  refine lv_lconst (v := 1) S.1 S.2.1 d_Sz_notANumber_4 (by decide) ?_
  refine lv_aload_n S.1 S.2.1 d_Sz_notANumber_5 rfl (lv_at hl 0 rfl) ?_
  obtain ⟨hsm, hf⟩ := gx_chk hf
  refine vk_getf (v := .int ((gx_sz 0).getD o 0)) S.1 S.2.1 (gx_szF E hsm szm_0) hS S.2.2.2.1 (S.2.2.2.2 _ wd_1838) (fun _ h => h) d_Sz_notANumber_6 ?_
  refine lv_iconst (v := 2) S.1 S.2.1 d_Sz_notANumber_9 (by decide) ?_
  refine lv_isub S.1 S.2.1 d_Sz_notANumber_10 ?_
  refine lv_lshl S.1 S.2.1 d_Sz_notANumber_11 rfl ?_
  refine lv_lor S.1 S.2.1 d_Sz_notANumber_12 ?_
  obtain rfl := Option.some.inj hf
  exact gx_rl S hr hlk hS hP hD d_Sz_notANumber_13
theorem d_Nt_nearestEven_0 : decode b_Nt_nearestEven 0 = .ok (.lload_n 0, 1) := by decide +kernel
theorem d_Nt_nearestEven_1 : decode b_Nt_nearestEven 1 = .ok (.iload_n 2, 1) := by decide +kernel
theorem d_Nt_nearestEven_2 : decode b_Nt_nearestEven 2 = .ok (.lushr, 1) := by decide +kernel
theorem d_Nt_nearestEven_3 : decode b_Nt_nearestEven 3 = .ok (.lstore_n 3, 1) := by decide +kernel
theorem d_Nt_nearestEven_4 : decode b_Nt_nearestEven 4 = .ok (.lload_n 0, 1) := by decide +kernel
theorem d_Nt_nearestEven_5 : decode b_Nt_nearestEven 5 = .ok (.lconst 1, 1) := by decide +kernel
theorem d_Nt_nearestEven_6 : decode b_Nt_nearestEven 6 = .ok (.iload_n 2, 1) := by decide +kernel
theorem d_Nt_nearestEven_7 : decode b_Nt_nearestEven 7 = .ok (.lshl, 1) := by decide +kernel
theorem d_Nt_nearestEven_8 : decode b_Nt_nearestEven 8 = .ok (.lconst 1, 1) := by decide +kernel
theorem d_Nt_nearestEven_9 : decode b_Nt_nearestEven 9 = .ok (.lsub, 1) := by decide +kernel
theorem d_Nt_nearestEven_10 : decode b_Nt_nearestEven 10 = .ok (.land, 1) := by decide +kernel
theorem d_Nt_nearestEven_11 : decode b_Nt_nearestEven 11 = .ok (.lstore 5, 2) := by decide +kernel
theorem d_Nt_nearestEven_13 : decode b_Nt_nearestEven 13 = .ok (.lconst 1, 1) := by decide +kernel
theorem d_Nt_nearestEven_14 : decode b_Nt_nearestEven 14 = .ok (.iload_n 2, 1) := by decide +kernel
theorem d_Nt_nearestEven_15 : decode b_Nt_nearestEven 15 = .ok (.iconst 1, 1) := by decide +kernel
theorem d_Nt_nearestEven_16 : decode b_Nt_nearestEven 16 = .ok (.isub, 1) := by decide +kernel
theorem d_Nt_nearestEven_17 : decode b_Nt_nearestEven 17 = .ok (.lshl, 1) := by decide +kernel
theorem d_Nt_nearestEven_18 : decode b_Nt_nearestEven 18 = .ok (.lstore 7, 2) := by decide +kernel
theorem d_Nt_nearestEven_20 : decode b_Nt_nearestEven 20 = .ok (.lload 5, 2) := by decide +kernel
theorem d_Nt_nearestEven_22 : decode b_Nt_nearestEven 22 = .ok (.lload 7, 2) := by decide +kernel
theorem d_Nt_nearestEven_24 : decode b_Nt_nearestEven 24 = .ok (.lcmp, 1) := by decide +kernel
theorem d_Nt_nearestEven_25 : decode b_Nt_nearestEven 25 = .ok (.ifCond .gt 19, 3) := by decide +kernel
theorem d_Nt_nearestEven_28 : decode b_Nt_nearestEven 28 = .ok (.lload 5, 2) := by decide +kernel
theorem d_Nt_nearestEven_30 : decode b_Nt_nearestEven 30 = .ok (.lload 7, 2) := by decide +kernel
theorem d_Nt_nearestEven_32 : decode b_Nt_nearestEven 32 = .ok (.lcmp, 1) := by decide +kernel
theorem d_Nt_nearestEven_33 : decode b_Nt_nearestEven 33 = .ok (.ifCond .ne 15, 3) := by decide +kernel
theorem d_Nt_nearestEven_36 : decode b_Nt_nearestEven 36 = .ok (.lload_n 3, 1) := by decide +kernel
theorem d_Nt_nearestEven_37 : decode b_Nt_nearestEven 37 = .ok (.lconst 1, 1) := by decide +kernel
theorem d_Nt_nearestEven_38 : decode b_Nt_nearestEven 38 = .ok (.land, 1) := by decide +kernel
theorem d_Nt_nearestEven_39 : decode b_Nt_nearestEven 39 = .ok (.lconst 0, 1) := by decide +kernel
theorem d_Nt_nearestEven_40 : decode b_Nt_nearestEven 40 = .ok (.lcmp, 1) := by decide +kernel
theorem d_Nt_nearestEven_41 : decode b_Nt_nearestEven 41 = .ok (.ifCond .eq 7, 3) := by decide +kernel
theorem d_Nt_nearestEven_44 : decode b_Nt_nearestEven 44 = .ok (.iconst 1, 1) := by decide +kernel
theorem d_Nt_nearestEven_45 : decode b_Nt_nearestEven 45 = .ok (.goto 4, 3) := by decide +kernel
theorem d_Nt_nearestEven_48 : decode b_Nt_nearestEven 48 = .ok (.iconst 0, 1) := by decide +kernel
theorem d_Nt_nearestEven_49 : decode b_Nt_nearestEven 49 = .ok (.istore 9, 2) := by decide +kernel
theorem d_Nt_nearestEven_51 : decode b_Nt_nearestEven 51 = .ok (.iload 9, 2) := by decide +kernel
theorem d_Nt_nearestEven_53 : decode b_Nt_nearestEven 53 = .ok (.ifCond .eq 9, 3) := by decide +kernel
theorem d_Nt_nearestEven_56 : decode b_Nt_nearestEven 56 = .ok (.lload_n 3, 1) := by decide +kernel
theorem d_Nt_nearestEven_57 : decode b_Nt_nearestEven 57 = .ok (.lconst 1, 1) := by decide +kernel
theorem d_Nt_nearestEven_58 : decode b_Nt_nearestEven 58 = .ok (.ladd, 1) := by decide +kernel
theorem d_Nt_nearestEven_59 : decode b_Nt_nearestEven 59 = .ok (.goto 4, 3) := by decide +kernel
theorem d_Nt_nearestEven_62 : decode b_Nt_nearestEven 62 = .ok (.lload_n 3, 1) := by decide +kernel
theorem d_Nt_nearestEven_63 : decode b_Nt_nearestEven 63 = .ok (.lreturn, 1) := by decide +kernel
theorem cal_Nt_nearestEven : gx_cal y_Nt_nearestEven b_Nt_nearestEven 10 (some .long) 2 := ⟨wd_875, wd_1, by decide +kernel⟩
def ww_Nt_nearestEven (g : Nat → ClassId)  : va_W := []
def f_Nt_nearestEven_49 (v3 : Int64) (t0 : Int32) : Option (Int64) := if t0 = 0 then (some v3) else (some (v3 + (1 : Int64)))
def f_Nt_nearestEven_44 (v3 : Int64) : Option (Int64) := f_Nt_nearestEven_49 v3 (1 : Int32)
def f_Nt_nearestEven_48 (v3 : Int64) : Option (Int64) := f_Nt_nearestEven_49 v3 (0 : Int32)
def f_Nt_nearestEven (a1 : Int64) (a2 : Int32) : Option (Int64) := if ((1 : Int64) <<< ((a2 - (1 : Int32)).toInt64 &&& 63)) < (a1 &&& (((1 : Int64) <<< (a2.toInt64 &&& 63)) - (1 : Int64))) then (f_Nt_nearestEven_44 ((a1.toUInt64 >>> (a2.toInt64.toUInt64 &&& Int64.toUInt64 63)).toInt64)) else (if (a1 &&& (((1 : Int64) <<< (a2.toInt64 &&& 63)) - (1 : Int64))) = ((1 : Int64) <<< ((a2 - (1 : Int32)).toInt64 &&& 63)) then (if (((a1.toUInt64 >>> (a2.toInt64.toUInt64 &&& Int64.toUInt64 63)).toInt64) &&& (1 : Int64)) = (0 : Int64) then (f_Nt_nearestEven_48 ((a1.toUInt64 >>> (a2.toInt64.toUInt64 &&& Int64.toUInt64 63)).toInt64)) else (f_Nt_nearestEven_44 ((a1.toUInt64 >>> (a2.toInt64.toUInt64 &&& Int64.toUInt64 63)).toInt64))) else (f_Nt_nearestEven_48 ((a1.toUInt64 >>> (a2.toInt64.toUInt64 &&& Int64.toUInt64 63)).toInt64)))
set_option maxHeartbeats 4000000 in
set_option maxRecDepth 100000 in
theorem c_Nt_nearestEven (l : Launch) (z : State) (D : va_G) (g : Nat → ClassId) (a1 : Int64) (a2 : Int32) (r : Int64) (hf : f_Nt_nearestEven a1 a2 = some r) : gx_Ml l z D g y_Nt_nearestEven b_Nt_nearestEven 10 .long ({ frames := 0, cells := 0, slots := 0, locals := 0 } : Room) [.long a1, .int a2] (ww_Nt_nearestEven g ) (ww_Nt_nearestEven g ) r := by
  refine gx_go (by decide +kernel) rfl ?_
  intro p e s m below meth c ls S hr hlk hnm E hP hD hl
  have hS : va_S (va_A (ww_Nt_nearestEven g ) s.heap.size) s.heap s.heap [] := va_S.rf
  have hl : lv_has ls 10 [(0, .long a1), (2, .int a2)] := hl
  have c_49 : ∀ (v3 : Int64) (t0 : Int32) (ls : Array Slot) (H : Heap) (locs : List Loc), lv_has ls 10 [(3, .long v3)] → va_S (va_A (ww_Nt_nearestEven g ) s.heap.size) s.heap H locs → va_P D vwC (ww_Nt_nearestEven g ) H → va_D (va_A (ww_Nt_nearestEven g ) s.heap.size) (ww_Nt_nearestEven g ) → (f_Nt_nearestEven_49 v3 t0) = some r → W p l e ({ frames := 0, cells := 0, slots := 0, locals := 0 } : Room) s m ([.long a1, .int a2] : List Value).toArray below meth c H locs 0 0 (MQ below (gx_Ql D (ww_Nt_nearestEven g ) (ww_Nt_nearestEven g ) r s.heap.size) ([.long a1, .int a2] : List Value).toArray s 0 0 (va_A (ww_Nt_nearestEven g ) s.heap.size)) (F0 m 49 ls [.int t0]) := by
    intro v3 t0 ls H locs hl hS hP hD hf
    have hf : (if t0 = 0 then (some v3) else (some (v3 + (1 : Int64)))) = some r := hf
    refine lv_istore (lv' := [(9, .int t0), (3, .long v3)]) S.1 S.2.1 d_Nt_nearestEven_49 hl (by decide) rfl (fun ls hl => ?_)
    refine lv_iload S.1 S.2.1 d_Nt_nearestEven_51 (lv_at hl 0 rfl) ?_
    refine lv_if_eq (tgt := 62) S.1 S.2.1 d_Nt_nearestEven_53 (by decide) (fun h => ?_) (fun h => ?_)
    ·
      have hf := gx_ifp h hf
      refine lv_lload_n S.1 S.2.1 d_Nt_nearestEven_62 rfl (lv_at hl 1 rfl) ?_
      obtain rfl := Option.some.inj hf
      exact gx_rl S hr hlk hS hP hD d_Nt_nearestEven_63
    ·
      have hf := gx_ifn h hf
      refine lv_lload_n S.1 S.2.1 d_Nt_nearestEven_56 rfl (lv_at hl 1 rfl) ?_
      refine lv_lconst (v := 1) S.1 S.2.1 d_Nt_nearestEven_57 (by decide) ?_
      refine lv_ladd S.1 S.2.1 d_Nt_nearestEven_58 ?_
      refine lv_goto (tgt := 63) S.1 S.2.1 d_Nt_nearestEven_59 (by decide) ?_
      obtain rfl := Option.some.inj hf
      exact gx_rl S hr hlk hS hP hD d_Nt_nearestEven_63
  have c_44 : ∀ (v3 : Int64) (ls : Array Slot) (H : Heap) (locs : List Loc), lv_has ls 10 [(3, .long v3)] → va_S (va_A (ww_Nt_nearestEven g ) s.heap.size) s.heap H locs → va_P D vwC (ww_Nt_nearestEven g ) H → va_D (va_A (ww_Nt_nearestEven g ) s.heap.size) (ww_Nt_nearestEven g ) → (f_Nt_nearestEven_44 v3) = some r → W p l e ({ frames := 0, cells := 0, slots := 0, locals := 0 } : Room) s m ([.long a1, .int a2] : List Value).toArray below meth c H locs 0 0 (MQ below (gx_Ql D (ww_Nt_nearestEven g ) (ww_Nt_nearestEven g ) r s.heap.size) ([.long a1, .int a2] : List Value).toArray s 0 0 (va_A (ww_Nt_nearestEven g ) s.heap.size)) (F0 m 44 ls []) := by
    intro v3 ls H locs hl hS hP hD hf
    have hf : (f_Nt_nearestEven_49 v3 (1 : Int32)) = some r := hf
    refine lv_iconst (v := 1) S.1 S.2.1 d_Nt_nearestEven_44 (by decide) ?_
    refine lv_goto (tgt := 49) S.1 S.2.1 d_Nt_nearestEven_45 (by decide) ?_
    exact c_49 v3 (1 : Int32) ls _ _ (lv_sub hl [0] rfl) hS hP hD hf
  have c_48 : ∀ (v3 : Int64) (ls : Array Slot) (H : Heap) (locs : List Loc), lv_has ls 10 [(3, .long v3)] → va_S (va_A (ww_Nt_nearestEven g ) s.heap.size) s.heap H locs → va_P D vwC (ww_Nt_nearestEven g ) H → va_D (va_A (ww_Nt_nearestEven g ) s.heap.size) (ww_Nt_nearestEven g ) → (f_Nt_nearestEven_48 v3) = some r → W p l e ({ frames := 0, cells := 0, slots := 0, locals := 0 } : Room) s m ([.long a1, .int a2] : List Value).toArray below meth c H locs 0 0 (MQ below (gx_Ql D (ww_Nt_nearestEven g ) (ww_Nt_nearestEven g ) r s.heap.size) ([.long a1, .int a2] : List Value).toArray s 0 0 (va_A (ww_Nt_nearestEven g ) s.heap.size)) (F0 m 48 ls []) := by
    intro v3 ls H locs hl hS hP hD hf
    have hf : (f_Nt_nearestEven_49 v3 (0 : Int32)) = some r := hf
    refine lv_iconst (v := 0) S.1 S.2.1 d_Nt_nearestEven_48 (by decide) ?_
    exact c_49 v3 (0 : Int32) ls _ _ (lv_sub hl [0] rfl) hS hP hD hf
  have hf : (if ((1 : Int64) <<< ((a2 - (1 : Int32)).toInt64 &&& 63)) < (a1 &&& (((1 : Int64) <<< (a2.toInt64 &&& 63)) - (1 : Int64))) then (f_Nt_nearestEven_44 ((a1.toUInt64 >>> (a2.toInt64.toUInt64 &&& Int64.toUInt64 63)).toInt64)) else (if (a1 &&& (((1 : Int64) <<< (a2.toInt64 &&& 63)) - (1 : Int64))) = ((1 : Int64) <<< ((a2 - (1 : Int32)).toInt64 &&& 63)) then (if (((a1.toUInt64 >>> (a2.toInt64.toUInt64 &&& Int64.toUInt64 63)).toInt64) &&& (1 : Int64)) = (0 : Int64) then (f_Nt_nearestEven_48 ((a1.toUInt64 >>> (a2.toInt64.toUInt64 &&& Int64.toUInt64 63)).toInt64)) else (f_Nt_nearestEven_44 ((a1.toUInt64 >>> (a2.toInt64.toUInt64 &&& Int64.toUInt64 63)).toInt64))) else (f_Nt_nearestEven_48 ((a1.toUInt64 >>> (a2.toInt64.toUInt64 &&& Int64.toUInt64 63)).toInt64)))) = some r := hf
  refine lv_lload_n S.1 S.2.1 d_Nt_nearestEven_0 rfl (lv_at hl 0 rfl) ?_
  refine lv_iload_n S.1 S.2.1 d_Nt_nearestEven_1 rfl (lv_at hl 1 rfl) ?_
  refine lv_lushr S.1 S.2.1 d_Nt_nearestEven_2 rfl ?_
  refine lv_lstore_n (lv' := [(3, .long ((a1.toUInt64 >>> (a2.toInt64.toUInt64 &&& Int64.toUInt64 63)).toInt64)), (0, .long a1), (2, .int a2)]) S.1 S.2.1 d_Nt_nearestEven_3 rfl hl (by decide) rfl (fun ls hl => ?_)
  refine lv_lload_n S.1 S.2.1 d_Nt_nearestEven_4 rfl (lv_at hl 1 rfl) ?_
  refine lv_lconst (v := 1) S.1 S.2.1 d_Nt_nearestEven_5 (by decide) ?_
  refine lv_iload_n S.1 S.2.1 d_Nt_nearestEven_6 rfl (lv_at hl 2 rfl) ?_
  refine lv_lshl S.1 S.2.1 d_Nt_nearestEven_7 rfl ?_
  refine lv_lconst (v := 1) S.1 S.2.1 d_Nt_nearestEven_8 (by decide) ?_
  refine lv_lsub S.1 S.2.1 d_Nt_nearestEven_9 ?_
  refine lv_land S.1 S.2.1 d_Nt_nearestEven_10 ?_
  refine lv_lstore (lv' := [(5, .long (a1 &&& (((1 : Int64) <<< (a2.toInt64 &&& 63)) - (1 : Int64)))), (3, .long ((a1.toUInt64 >>> (a2.toInt64.toUInt64 &&& Int64.toUInt64 63)).toInt64)), (0, .long a1), (2, .int a2)]) S.1 S.2.1 d_Nt_nearestEven_11 hl (by decide) rfl (fun ls hl => ?_)
  refine lv_lconst (v := 1) S.1 S.2.1 d_Nt_nearestEven_13 (by decide) ?_
  refine lv_iload_n S.1 S.2.1 d_Nt_nearestEven_14 rfl (lv_at hl 3 rfl) ?_
  refine lv_iconst (v := 1) S.1 S.2.1 d_Nt_nearestEven_15 (by decide) ?_
  refine lv_isub S.1 S.2.1 d_Nt_nearestEven_16 ?_
  refine lv_lshl S.1 S.2.1 d_Nt_nearestEven_17 rfl ?_
  refine lv_lstore (lv' := [(7, .long ((1 : Int64) <<< ((a2 - (1 : Int32)).toInt64 &&& 63))), (5, .long (a1 &&& (((1 : Int64) <<< (a2.toInt64 &&& 63)) - (1 : Int64)))), (3, .long ((a1.toUInt64 >>> (a2.toInt64.toUInt64 &&& Int64.toUInt64 63)).toInt64)), (0, .long a1), (2, .int a2)]) S.1 S.2.1 d_Nt_nearestEven_18 hl (by decide) rfl (fun ls hl => ?_)
  refine lv_lload S.1 S.2.1 d_Nt_nearestEven_20 (lv_at hl 1 rfl) ?_
  refine lv_lload S.1 S.2.1 d_Nt_nearestEven_22 (lv_at hl 0 rfl) ?_
  refine W.lcmp S.1 S.2.1 d_Nt_nearestEven_24 ?_
  refine lv_if_gt (tgt := 44) S.1 S.2.1 d_Nt_nearestEven_25 (by decide) (fun h => ?_) (fun h => ?_)
  ·
    have h : ((1 : Int64) <<< ((a2 - (1 : Int32)).toInt64 &&& 63)) < (a1 &&& (((1 : Int64) <<< (a2.toInt64 &&& 63)) - (1 : Int64))) := (lg_cmp_gt _ _).mp h
    have hf := gx_ifp h hf
    exact c_44 ((a1.toUInt64 >>> (a2.toInt64.toUInt64 &&& Int64.toUInt64 63)).toInt64) ls _ _ (lv_sub hl [2] rfl) hS hP hD hf
  ·
    have h : ¬ ((1 : Int64) <<< ((a2 - (1 : Int32)).toInt64 &&& 63)) < (a1 &&& (((1 : Int64) <<< (a2.toInt64 &&& 63)) - (1 : Int64))) := fun q => h ((lg_cmp_gt _ _).mpr q)
    have hf := gx_ifn h hf
    refine lv_lload S.1 S.2.1 d_Nt_nearestEven_28 (lv_at hl 1 rfl) ?_
    refine lv_lload S.1 S.2.1 d_Nt_nearestEven_30 (lv_at hl 0 rfl) ?_
    refine W.lcmp S.1 S.2.1 d_Nt_nearestEven_32 ?_
    refine lv_if_ne (tgt := 48) S.1 S.2.1 d_Nt_nearestEven_33 (by decide) (fun h => ?_) (fun h => ?_)
    ·
      have h : ¬ (a1 &&& (((1 : Int64) <<< (a2.toInt64 &&& 63)) - (1 : Int64))) = ((1 : Int64) <<< ((a2 - (1 : Int32)).toInt64 &&& 63)) := fun q => h ((lg_cmp_eq _ _).mpr q)
      have hf := gx_ifn h hf
      exact c_48 ((a1.toUInt64 >>> (a2.toInt64.toUInt64 &&& Int64.toUInt64 63)).toInt64) ls _ _ (lv_sub hl [2] rfl) hS hP hD hf
    ·
      have h : (a1 &&& (((1 : Int64) <<< (a2.toInt64 &&& 63)) - (1 : Int64))) = ((1 : Int64) <<< ((a2 - (1 : Int32)).toInt64 &&& 63)) := (lg_cmp_eq _ _).mp h
      have hf := gx_ifp h hf
      refine lv_lload_n S.1 S.2.1 d_Nt_nearestEven_36 rfl (lv_at hl 2 rfl) ?_
      refine lv_lconst (v := 1) S.1 S.2.1 d_Nt_nearestEven_37 (by decide) ?_
      refine lv_land S.1 S.2.1 d_Nt_nearestEven_38 ?_
      refine lv_lconst (v := 0) S.1 S.2.1 d_Nt_nearestEven_39 (by decide) ?_
      refine W.lcmp S.1 S.2.1 d_Nt_nearestEven_40 ?_
      refine lv_if_eq (tgt := 48) S.1 S.2.1 d_Nt_nearestEven_41 (by decide) (fun h => ?_) (fun h => ?_)
      ·
        have h : (((a1.toUInt64 >>> (a2.toInt64.toUInt64 &&& Int64.toUInt64 63)).toInt64) &&& (1 : Int64)) = (0 : Int64) := (lg_cmp_eq _ _).mp h
        have hf := gx_ifp h hf
        exact c_48 ((a1.toUInt64 >>> (a2.toInt64.toUInt64 &&& Int64.toUInt64 63)).toInt64) ls _ _ (lv_sub hl [2] rfl) hS hP hD hf
      ·
        have h : ¬ (((a1.toUInt64 >>> (a2.toInt64.toUInt64 &&& Int64.toUInt64 63)).toInt64) &&& (1 : Int64)) = (0 : Int64) := fun q => h ((lg_cmp_eq _ _).mpr q)
        have hf := gx_ifn h hf
        exact c_44 ((a1.toUInt64 >>> (a2.toInt64.toUInt64 &&& Int64.toUInt64 63)).toInt64) ls _ _ (lv_sub hl [2] rfl) hS hP hD hf
theorem d_Sz_rounded_0 : decode b_Sz_rounded 0 = .ok (.lload_n 1, 1) := by decide +kernel
theorem d_Sz_rounded_1 : decode b_Sz_rounded 1 = .ok (.lconst 0, 1) := by decide +kernel
theorem d_Sz_rounded_2 : decode b_Sz_rounded 2 = .ok (.lcmp, 1) := by decide +kernel
theorem d_Sz_rounded_3 : decode b_Sz_rounded 3 = .ok (.ifCond .ne 5, 3) := by decide +kernel
theorem d_Sz_rounded_6 : decode b_Sz_rounded 6 = .ok (.lconst 0, 1) := by decide +kernel
theorem d_Sz_rounded_7 : decode b_Sz_rounded 7 = .ok (.lreturn, 1) := by decide +kernel
theorem d_Sz_rounded_8 : decode b_Sz_rounded 8 = .ok (.bipush 64, 2) := by decide +kernel
theorem d_Sz_rounded_10 : decode b_Sz_rounded 10 = .ok (.lload_n 1, 1) := by decide +kernel
theorem d_Sz_rounded_11 : decode b_Sz_rounded 11 = .ok (.invokestatic 50, 3) := by decide +kernel
theorem d_Sz_rounded_14 : decode b_Sz_rounded 14 = .ok (.isub, 1) := by decide +kernel
theorem d_Sz_rounded_15 : decode b_Sz_rounded 15 = .ok (.istore 4, 2) := by decide +kernel
theorem d_Sz_rounded_17 : decode b_Sz_rounded 17 = .ok (.iload_n 3, 1) := by decide +kernel
theorem d_Sz_rounded_18 : decode b_Sz_rounded 18 = .ok (.iload 4, 2) := by decide +kernel
theorem d_Sz_rounded_20 : decode b_Sz_rounded 20 = .ok (.iadd, 1) := by decide +kernel
theorem d_Sz_rounded_21 : decode b_Sz_rounded 21 = .ok (.aload_n 0, 1) := by decide +kernel
theorem d_Sz_rounded_22 : decode b_Sz_rounded 22 = .ok (.getfield 29, 3) := by decide +kernel
theorem d_Sz_rounded_25 : decode b_Sz_rounded 25 = .ok (.isub, 1) := by decide +kernel
theorem d_Sz_rounded_26 : decode b_Sz_rounded 26 = .ok (.aload_n 0, 1) := by decide +kernel
theorem d_Sz_rounded_27 : decode b_Sz_rounded 27 = .ok (.getfield 33, 3) := by decide +kernel
theorem d_Sz_rounded_30 : decode b_Sz_rounded 30 = .ok (.invokestatic 56, 3) := by decide +kernel
theorem d_Sz_rounded_33 : decode b_Sz_rounded 33 = .ok (.istore 5, 2) := by decide +kernel
theorem d_Sz_rounded_35 : decode b_Sz_rounded 35 = .ok (.iload 5, 2) := by decide +kernel
theorem d_Sz_rounded_37 : decode b_Sz_rounded 37 = .ok (.iload_n 3, 1) := by decide +kernel
theorem d_Sz_rounded_38 : decode b_Sz_rounded 38 = .ok (.isub, 1) := by decide +kernel
theorem d_Sz_rounded_39 : decode b_Sz_rounded 39 = .ok (.istore 6, 2) := by decide +kernel
theorem d_Sz_rounded_41 : decode b_Sz_rounded 41 = .ok (.iload 6, 2) := by decide +kernel
theorem d_Sz_rounded_43 : decode b_Sz_rounded 43 = .ok (.bipush 62, 2) := by decide +kernel
theorem d_Sz_rounded_45 : decode b_Sz_rounded 45 = .ok (.if_icmp .le 5, 3) := by decide +kernel
theorem d_Sz_rounded_48 : decode b_Sz_rounded 48 = .ok (.lconst 0, 1) := by decide +kernel
theorem d_Sz_rounded_49 : decode b_Sz_rounded 49 = .ok (.lreturn, 1) := by decide +kernel
theorem d_Sz_rounded_50 : decode b_Sz_rounded 50 = .ok (.iload 6, 2) := by decide +kernel
theorem d_Sz_rounded_52 : decode b_Sz_rounded 52 = .ok (.ifCond .le 12, 3) := by decide +kernel
theorem d_Sz_rounded_55 : decode b_Sz_rounded 55 = .ok (.lload_n 1, 1) := by decide +kernel
theorem d_Sz_rounded_56 : decode b_Sz_rounded 56 = .ok (.iload 6, 2) := by decide +kernel
theorem d_Sz_rounded_58 : decode b_Sz_rounded 58 = .ok (.invokestatic 62, 3) := by decide +kernel
theorem d_Sz_rounded_61 : decode b_Sz_rounded 61 = .ok (.goto 8, 3) := by decide +kernel
theorem d_Sz_rounded_64 : decode b_Sz_rounded 64 = .ok (.lload_n 1, 1) := by decide +kernel
theorem d_Sz_rounded_65 : decode b_Sz_rounded 65 = .ok (.iload 6, 2) := by decide +kernel
theorem d_Sz_rounded_67 : decode b_Sz_rounded 67 = .ok (.ineg, 1) := by decide +kernel
theorem d_Sz_rounded_68 : decode b_Sz_rounded 68 = .ok (.lshl, 1) := by decide +kernel
theorem d_Sz_rounded_69 : decode b_Sz_rounded 69 = .ok (.lstore 7, 2) := by decide +kernel
theorem d_Sz_rounded_71 : decode b_Sz_rounded 71 = .ok (.lload 7, 2) := by decide +kernel
theorem d_Sz_rounded_73 : decode b_Sz_rounded 73 = .ok (.aload_n 0, 1) := by decide +kernel
theorem d_Sz_rounded_74 : decode b_Sz_rounded 74 = .ok (.getfield 29, 3) := by decide +kernel
theorem d_Sz_rounded_77 : decode b_Sz_rounded 77 = .ok (.lushr, 1) := by decide +kernel
theorem d_Sz_rounded_78 : decode b_Sz_rounded 78 = .ok (.lconst 0, 1) := by decide +kernel
theorem d_Sz_rounded_79 : decode b_Sz_rounded 79 = .ok (.lcmp, 1) := by decide +kernel
theorem d_Sz_rounded_80 : decode b_Sz_rounded 80 = .ok (.ifCond .eq 12, 3) := by decide +kernel
theorem d_Sz_rounded_83 : decode b_Sz_rounded 83 = .ok (.lload 7, 2) := by decide +kernel
theorem d_Sz_rounded_85 : decode b_Sz_rounded 85 = .ok (.iconst 1, 1) := by decide +kernel
theorem d_Sz_rounded_86 : decode b_Sz_rounded 86 = .ok (.lushr, 1) := by decide +kernel
theorem d_Sz_rounded_87 : decode b_Sz_rounded 87 = .ok (.lstore 7, 2) := by decide +kernel
theorem d_Sz_rounded_89 : decode b_Sz_rounded 89 = .ok (.iinc 5 1, 3) := by decide +kernel
theorem d_Sz_rounded_92 : decode b_Sz_rounded 92 = .ok (.iload 5, 2) := by decide +kernel
theorem d_Sz_rounded_94 : decode b_Sz_rounded 94 = .ok (.aload_n 0, 1) := by decide +kernel
theorem d_Sz_rounded_95 : decode b_Sz_rounded 95 = .ok (.getfield 36, 3) := by decide +kernel
theorem d_Sz_rounded_98 : decode b_Sz_rounded 98 = .ok (.if_icmp .le 8, 3) := by decide +kernel
theorem d_Sz_rounded_101 : decode b_Sz_rounded 101 = .ok (.aload_n 0, 1) := by decide +kernel
theorem d_Sz_rounded_102 : decode b_Sz_rounded 102 = .ok (.invokevirtual 46, 3) := by decide +kernel
theorem d_Sz_rounded_105 : decode b_Sz_rounded 105 = .ok (.lreturn, 1) := by decide +kernel
theorem d_Sz_rounded_106 : decode b_Sz_rounded 106 = .ok (.lload 7, 2) := by decide +kernel
theorem d_Sz_rounded_108 : decode b_Sz_rounded 108 = .ok (.aload_n 0, 1) := by decide +kernel
theorem d_Sz_rounded_109 : decode b_Sz_rounded 109 = .ok (.getfield 29, 3) := by decide +kernel
theorem d_Sz_rounded_112 : decode b_Sz_rounded 112 = .ok (.iconst 1, 1) := by decide +kernel
theorem d_Sz_rounded_113 : decode b_Sz_rounded 113 = .ok (.isub, 1) := by decide +kernel
theorem d_Sz_rounded_114 : decode b_Sz_rounded 114 = .ok (.lushr, 1) := by decide +kernel
theorem d_Sz_rounded_115 : decode b_Sz_rounded 115 = .ok (.lconst 0, 1) := by decide +kernel
theorem d_Sz_rounded_116 : decode b_Sz_rounded 116 = .ok (.lcmp, 1) := by decide +kernel
theorem d_Sz_rounded_117 : decode b_Sz_rounded 117 = .ok (.ifCond .ne 6, 3) := by decide +kernel
theorem d_Sz_rounded_120 : decode b_Sz_rounded 120 = .ok (.lload 7, 2) := by decide +kernel
theorem d_Sz_rounded_122 : decode b_Sz_rounded 122 = .ok (.lreturn, 1) := by decide +kernel
theorem d_Sz_rounded_123 : decode b_Sz_rounded 123 = .ok (.iload 5, 2) := by decide +kernel
theorem d_Sz_rounded_125 : decode b_Sz_rounded 125 = .ok (.aload_n 0, 1) := by decide +kernel
theorem d_Sz_rounded_126 : decode b_Sz_rounded 126 = .ok (.getfield 33, 3) := by decide +kernel
theorem d_Sz_rounded_129 : decode b_Sz_rounded 129 = .ok (.isub, 1) := by decide +kernel
theorem d_Sz_rounded_130 : decode b_Sz_rounded 130 = .ok (.iconst 1, 1) := by decide +kernel
theorem d_Sz_rounded_131 : decode b_Sz_rounded 131 = .ok (.iadd, 1) := by decide +kernel
theorem d_Sz_rounded_132 : decode b_Sz_rounded 132 = .ok (.i2l, 1) := by decide +kernel
theorem d_Sz_rounded_133 : decode b_Sz_rounded 133 = .ok (.aload_n 0, 1) := by decide +kernel
theorem d_Sz_rounded_134 : decode b_Sz_rounded 134 = .ok (.getfield 29, 3) := by decide +kernel
theorem d_Sz_rounded_137 : decode b_Sz_rounded 137 = .ok (.iconst 1, 1) := by decide +kernel
theorem d_Sz_rounded_138 : decode b_Sz_rounded 138 = .ok (.isub, 1) := by decide +kernel
theorem d_Sz_rounded_139 : decode b_Sz_rounded 139 = .ok (.lshl, 1) := by decide +kernel
theorem d_Sz_rounded_140 : decode b_Sz_rounded 140 = .ok (.lload 7, 2) := by decide +kernel
theorem d_Sz_rounded_142 : decode b_Sz_rounded 142 = .ok (.aload_n 0, 1) := by decide +kernel
theorem d_Sz_rounded_143 : decode b_Sz_rounded 143 = .ok (.invokevirtual 68, 3) := by decide +kernel
theorem d_Sz_rounded_146 : decode b_Sz_rounded 146 = .ok (.land, 1) := by decide +kernel
theorem d_Sz_rounded_147 : decode b_Sz_rounded 147 = .ok (.lor, 1) := by decide +kernel
theorem d_Sz_rounded_148 : decode b_Sz_rounded 148 = .ok (.lreturn, 1) := by decide +kernel
theorem cal_Sz_rounded : gx_cal y_Sz_rounded b_Sz_rounded 9 (some .long) 2 := ⟨wd_870, wd_8, by decide +kernel⟩
def ww_Sz_rounded (g : Nat → ClassId)  : va_W := []
def f_Sz_rounded_92 (v0 : Nat) (v5 : Int32) (v7 : Int64) : Option (Int64) := if v0 < 2 then if v5 ≤ ((gx_sz 2).getD v0 0) then (if v0 < 2 then if ((v7.toUInt64 >>> ((((gx_sz 0).getD v0 0) - (1 : Int32)).toInt64.toUInt64 &&& Int64.toUInt64 63)).toInt64) = (0 : Int64) then (some v7) else (if v0 < 2 then if v0 < 2 then if v0 < 2 then (f_Sz_fractionMask v0).bind fun u143 => some (((((v5 - ((gx_sz 1).getD v0 0)) + (1 : Int32)).toInt64) <<< ((((gx_sz 0).getD v0 0) - (1 : Int32)).toInt64 &&& 63)) ||| (v7 &&& u143)) else none else none else none) else none) else (if v0 < 2 then (f_Sz_infinity v0).bind fun u102 => some u102 else none) else none
def f_Sz_rounded_69 (v0 : Nat) (v5 : Int32) (t0 : Int64) : Option (Int64) := if v0 < 2 then if ((t0.toUInt64 >>> (((gx_sz 0).getD v0 0).toInt64.toUInt64 &&& Int64.toUInt64 63)).toInt64) = (0 : Int64) then (f_Sz_rounded_92 v0 v5 t0) else (f_Sz_rounded_92 v0 (v5 + 1) ((t0.toUInt64 >>> ((1 : Int32).toInt64.toUInt64 &&& Int64.toUInt64 63)).toInt64)) else none
def f_Sz_rounded (o : Nat) (a1 : Int64) (a2 : Int32) : Option (Int64) := if a1 = (0 : Int64) then (some (0 : Int64)) else ((f_JLong_numberOfLeadingZeros a1).bind fun u11 => if o < 2 then if o < 2 then (f_JMath_max ((a2 + ((64 : Int32) - u11)) - ((gx_sz 0).getD o 0)) ((gx_sz 1).getD o 0)).bind fun u30 => if (u30 - a2) ≤ (62 : Int32) then (if (u30 - a2) ≤ 0 then (f_Sz_rounded_69 o u30 (a1 <<< ((-(u30 - a2)).toInt64 &&& 63))) else ((f_Nt_nearestEven a1 (u30 - a2)).bind fun u58 => f_Sz_rounded_69 o u30 u58)) else (some (0 : Int64)) else none else none)
set_option maxHeartbeats 4000000 in
set_option maxRecDepth 100000 in
theorem c_Sz_rounded (l : Launch) (z : State) (D : va_G) (g : Nat → ClassId) (o : Nat) (a1 : Int64) (a2 : Int32) (r : Int64) (hf : f_Sz_rounded o a1 a2 = some r) : gx_Ml l z D g y_Sz_rounded b_Sz_rounded 9 .long ({ frames := 2, cells := 0, slots := 0, locals := 43 } : Room) [.ref (g (11 + o)), .long a1, .int a2] (ww_Sz_rounded g ) (ww_Sz_rounded g ) r := by
  refine gx_go (by decide +kernel) rfl ?_
  intro p e s m below meth c ls S hr hlk hnm E hP hD hl
  have hS : va_S (va_A (ww_Sz_rounded g ) s.heap.size) s.heap s.heap [] := va_S.rf
  have hl : lv_has ls 9 [(0, .ref (g (11 + o))), (1, .long a1), (3, .int a2)] := hl
  have c_92 : ∀ (v0 : Nat) (v5 : Int32) (v7 : Int64) (ls : Array Slot) (H : Heap) (locs : List Loc), lv_has ls 9 [(0, .ref (g (11 + v0))), (5, .int v5), (7, .long v7)] → va_S (va_A (ww_Sz_rounded g ) s.heap.size) s.heap H locs → va_P D vwC (ww_Sz_rounded g ) H → va_D (va_A (ww_Sz_rounded g ) s.heap.size) (ww_Sz_rounded g ) → (f_Sz_rounded_92 v0 v5 v7) = some r → W p l e ({ frames := 2, cells := 0, slots := 0, locals := 43 } : Room) s m ([.ref (g (11 + o)), .long a1, .int a2] : List Value).toArray below meth c H locs 0 0 (MQ below (gx_Ql D (ww_Sz_rounded g ) (ww_Sz_rounded g ) r s.heap.size) ([.ref (g (11 + o)), .long a1, .int a2] : List Value).toArray s 0 0 (va_A (ww_Sz_rounded g ) s.heap.size)) (F0 m 92 ls []) := by
    intro v0 v5 v7 ls H locs hl hS hP hD hf
    have hf : (if v0 < 2 then if v5 ≤ ((gx_sz 2).getD v0 0) then (if v0 < 2 then if ((v7.toUInt64 >>> ((((gx_sz 0).getD v0 0) - (1 : Int32)).toInt64.toUInt64 &&& Int64.toUInt64 63)).toInt64) = (0 : Int64) then (some v7) else (if v0 < 2 then if v0 < 2 then if v0 < 2 then (f_Sz_fractionMask v0).bind fun u143 => some (((((v5 - ((gx_sz 1).getD v0 0)) + (1 : Int32)).toInt64) <<< ((((gx_sz 0).getD v0 0) - (1 : Int32)).toInt64 &&& 63)) ||| (v7 &&& u143)) else none else none else none) else none) else (if v0 < 2 then (f_Sz_infinity v0).bind fun u102 => some u102 else none) else none) = some r := hf
    refine lv_iload S.1 S.2.1 d_Sz_rounded_92 (lv_at hl 1 rfl) ?_
    refine lv_aload_n S.1 S.2.1 d_Sz_rounded_94 rfl (lv_at hl 0 rfl) ?_
    obtain ⟨hsm, hf⟩ := gx_chk hf
    refine vk_getf (v := .int ((gx_sz 2).getD v0 0)) S.1 S.2.1 (gx_szF E hsm szm_2) hS S.2.2.2.1 (S.2.2.2.2 _ wd_1840) (fun _ h => h) d_Sz_rounded_95 ?_
    refine lv_icmp_le (tgt := 106) S.1 S.2.1 d_Sz_rounded_98 (by decide) (fun h => ?_) (fun h => ?_)
    ·
      have hf := gx_ifp h hf
      refine lv_lload S.1 S.2.1 d_Sz_rounded_106 (lv_at hl 2 rfl) ?_
      refine lv_aload_n S.1 S.2.1 d_Sz_rounded_108 rfl (lv_at hl 0 rfl) ?_
      obtain ⟨hsm, hf⟩ := gx_chk hf
      refine vk_getf (v := .int ((gx_sz 0).getD v0 0)) S.1 S.2.1 (gx_szF E hsm szm_0) hS S.2.2.2.1 (S.2.2.2.2 _ wd_1838) (fun _ h => h) d_Sz_rounded_109 ?_
      refine lv_iconst (v := 1) S.1 S.2.1 d_Sz_rounded_112 (by decide) ?_
      refine lv_isub S.1 S.2.1 d_Sz_rounded_113 ?_
      refine lv_lushr S.1 S.2.1 d_Sz_rounded_114 rfl ?_
      refine lv_lconst (v := 0) S.1 S.2.1 d_Sz_rounded_115 (by decide) ?_
      refine W.lcmp S.1 S.2.1 d_Sz_rounded_116 ?_
      refine lv_if_ne (tgt := 123) S.1 S.2.1 d_Sz_rounded_117 (by decide) (fun h => ?_) (fun h => ?_)
      ·
        have h : ¬ ((v7.toUInt64 >>> ((((gx_sz 0).getD v0 0) - (1 : Int32)).toInt64.toUInt64 &&& Int64.toUInt64 63)).toInt64) = (0 : Int64) := fun q => h ((lg_cmp_eq _ _).mpr q)
        have hf := gx_ifn h hf
        refine lv_iload S.1 S.2.1 d_Sz_rounded_123 (lv_at hl 1 rfl) ?_
        refine lv_aload_n S.1 S.2.1 d_Sz_rounded_125 rfl (lv_at hl 0 rfl) ?_
        obtain ⟨hsm, hf⟩ := gx_chk hf
        refine vk_getf (v := .int ((gx_sz 1).getD v0 0)) S.1 S.2.1 (gx_szF E hsm szm_1) hS S.2.2.2.1 (S.2.2.2.2 _ wd_1841) (fun _ h => h) d_Sz_rounded_126 ?_
        refine lv_isub S.1 S.2.1 d_Sz_rounded_129 ?_
        refine lv_iconst (v := 1) S.1 S.2.1 d_Sz_rounded_130 (by decide) ?_
        refine lv_iadd S.1 S.2.1 d_Sz_rounded_131 ?_
        refine lv_i2l S.1 S.2.1 d_Sz_rounded_132 rfl ?_
        refine lv_aload_n S.1 S.2.1 d_Sz_rounded_133 rfl (lv_at hl 0 rfl) ?_
        obtain ⟨hsm, hf⟩ := gx_chk hf
        refine vk_getf (v := .int ((gx_sz 0).getD v0 0)) S.1 S.2.1 (gx_szF E hsm szm_0) hS S.2.2.2.1 (S.2.2.2.2 _ wd_1838) (fun _ h => h) d_Sz_rounded_134 ?_
        refine lv_iconst (v := 1) S.1 S.2.1 d_Sz_rounded_137 (by decide) ?_
        refine lv_isub S.1 S.2.1 d_Sz_rounded_138 ?_
        refine lv_lshl S.1 S.2.1 d_Sz_rounded_139 rfl ?_
        refine lv_lload S.1 S.2.1 d_Sz_rounded_140 (lv_at hl 2 rfl) ?_
        refine lv_aload_n S.1 S.2.1 d_Sz_rounded_142 rfl (lv_at hl 0 rfl) ?_
        obtain ⟨hk143z, hf⟩ := gx_chk hf
        obtain ⟨u143, hc143, hf⟩ := gx_bnd hf
        refine gx_Vl (ws2 := (ww_Sz_rounded g )) S E hS hP hD (c_Sz_fractionMask l z D g v0 u143 hc143) cal_Sz_fractionMask wd_403 wd_404 wd_876 rfl [] rfl rfl rfl (gx_rcO (gx_szO E hk143z) hS) rfl hl.1 rfl d_Sz_rounded_143 ⟨Nat.zero_le _, Nat.zero_le _⟩ rfl (fun H locs hS hP hD => ?_)
        refine lv_land S.1 S.2.1 d_Sz_rounded_146 ?_
        refine lv_lor S.1 S.2.1 d_Sz_rounded_147 ?_
        obtain rfl := Option.some.inj hf
        exact gx_rl S hr hlk hS hP hD d_Sz_rounded_148
      ·
        have h : ((v7.toUInt64 >>> ((((gx_sz 0).getD v0 0) - (1 : Int32)).toInt64.toUInt64 &&& Int64.toUInt64 63)).toInt64) = (0 : Int64) := (lg_cmp_eq _ _).mp h
        have hf := gx_ifp h hf
        refine lv_lload S.1 S.2.1 d_Sz_rounded_120 (lv_at hl 2 rfl) ?_
        obtain rfl := Option.some.inj hf
        exact gx_rl S hr hlk hS hP hD d_Sz_rounded_122
    ·
      have hf := gx_ifn h hf
      refine lv_aload_n S.1 S.2.1 d_Sz_rounded_101 rfl (lv_at hl 0 rfl) ?_
      obtain ⟨hk102z, hf⟩ := gx_chk hf
      obtain ⟨u102, hc102, hf⟩ := gx_bnd hf
      refine gx_Vl (ws2 := (ww_Sz_rounded g )) S E hS hP hD (c_Sz_infinity l z D g v0 u102 hc102) cal_Sz_infinity wd_862 wd_863 wd_861 rfl [] rfl rfl rfl (gx_rcO (gx_szO E hk102z) hS) rfl hl.1 rfl d_Sz_rounded_102 ⟨Nat.zero_le _, Nat.zero_le _⟩ rfl (fun H locs hS hP hD => ?_)
      obtain rfl := Option.some.inj hf
      exact gx_rl S hr hlk hS hP hD d_Sz_rounded_105
  have c_69 : ∀ (v0 : Nat) (v5 : Int32) (t0 : Int64) (ls : Array Slot) (H : Heap) (locs : List Loc), lv_has ls 9 [(0, .ref (g (11 + v0))), (5, .int v5)] → va_S (va_A (ww_Sz_rounded g ) s.heap.size) s.heap H locs → va_P D vwC (ww_Sz_rounded g ) H → va_D (va_A (ww_Sz_rounded g ) s.heap.size) (ww_Sz_rounded g ) → (f_Sz_rounded_69 v0 v5 t0) = some r → W p l e ({ frames := 2, cells := 0, slots := 0, locals := 43 } : Room) s m ([.ref (g (11 + o)), .long a1, .int a2] : List Value).toArray below meth c H locs 0 0 (MQ below (gx_Ql D (ww_Sz_rounded g ) (ww_Sz_rounded g ) r s.heap.size) ([.ref (g (11 + o)), .long a1, .int a2] : List Value).toArray s 0 0 (va_A (ww_Sz_rounded g ) s.heap.size)) (F0 m 69 ls [.long t0]) := by
    intro v0 v5 t0 ls H locs hl hS hP hD hf
    have hf : (if v0 < 2 then if ((t0.toUInt64 >>> (((gx_sz 0).getD v0 0).toInt64.toUInt64 &&& Int64.toUInt64 63)).toInt64) = (0 : Int64) then (f_Sz_rounded_92 v0 v5 t0) else (f_Sz_rounded_92 v0 (v5 + 1) ((t0.toUInt64 >>> ((1 : Int32).toInt64.toUInt64 &&& Int64.toUInt64 63)).toInt64)) else none) = some r := hf
    refine lv_lstore (lv' := [(7, .long t0), (0, .ref (g (11 + v0))), (5, .int v5)]) S.1 S.2.1 d_Sz_rounded_69 hl (by decide) rfl (fun ls hl => ?_)
    refine lv_lload S.1 S.2.1 d_Sz_rounded_71 (lv_at hl 0 rfl) ?_
    refine lv_aload_n S.1 S.2.1 d_Sz_rounded_73 rfl (lv_at hl 1 rfl) ?_
    obtain ⟨hsm, hf⟩ := gx_chk hf
    refine vk_getf (v := .int ((gx_sz 0).getD v0 0)) S.1 S.2.1 (gx_szF E hsm szm_0) hS S.2.2.2.1 (S.2.2.2.2 _ wd_1838) (fun _ h => h) d_Sz_rounded_74 ?_
    refine lv_lushr S.1 S.2.1 d_Sz_rounded_77 rfl ?_
    refine lv_lconst (v := 0) S.1 S.2.1 d_Sz_rounded_78 (by decide) ?_
    refine W.lcmp S.1 S.2.1 d_Sz_rounded_79 ?_
    refine lv_if_eq (tgt := 92) S.1 S.2.1 d_Sz_rounded_80 (by decide) (fun h => ?_) (fun h => ?_)
    ·
      have h : ((t0.toUInt64 >>> (((gx_sz 0).getD v0 0).toInt64.toUInt64 &&& Int64.toUInt64 63)).toInt64) = (0 : Int64) := (lg_cmp_eq _ _).mp h
      have hf := gx_ifp h hf
      exact c_92 v0 v5 t0 ls _ _ (lv_sub hl [1, 2, 0] rfl) hS hP hD hf
    ·
      have h : ¬ ((t0.toUInt64 >>> (((gx_sz 0).getD v0 0).toInt64.toUInt64 &&& Int64.toUInt64 63)).toInt64) = (0 : Int64) := fun q => h ((lg_cmp_eq _ _).mpr q)
      have hf := gx_ifn h hf
      refine lv_lload S.1 S.2.1 d_Sz_rounded_83 (lv_at hl 0 rfl) ?_
      refine lv_iconst (v := 1) S.1 S.2.1 d_Sz_rounded_85 (by decide) ?_
      refine lv_lushr S.1 S.2.1 d_Sz_rounded_86 rfl ?_
      refine lv_lstore (lv' := [(7, .long ((t0.toUInt64 >>> ((1 : Int32).toInt64.toUInt64 &&& Int64.toUInt64 63)).toInt64)), (0, .ref (g (11 + v0))), (5, .int v5)]) S.1 S.2.1 d_Sz_rounded_87 hl (by decide) rfl (fun ls hl => ?_)
      refine lv_iinc (v := v5 + 1) (lv' := [(5, .int (v5 + 1)), (7, .long ((t0.toUInt64 >>> ((1 : Int32).toInt64.toUInt64 &&& Int64.toUInt64 63)).toInt64)), (0, .ref (g (11 + v0)))]) S.1 S.2.1 d_Sz_rounded_89 hl (k := 2) rfl rfl (by decide) rfl (fun ls hl => ?_)
      exact c_92 v0 (v5 + 1) ((t0.toUInt64 >>> ((1 : Int32).toInt64.toUInt64 &&& Int64.toUInt64 63)).toInt64) ls _ _ (lv_sub hl [2, 0, 1] rfl) hS hP hD hf
  have hf : (if a1 = (0 : Int64) then (some (0 : Int64)) else ((f_JLong_numberOfLeadingZeros a1).bind fun u11 => if o < 2 then if o < 2 then (f_JMath_max ((a2 + ((64 : Int32) - u11)) - ((gx_sz 0).getD o 0)) ((gx_sz 1).getD o 0)).bind fun u30 => if (u30 - a2) ≤ (62 : Int32) then (if (u30 - a2) ≤ 0 then (f_Sz_rounded_69 o u30 (a1 <<< ((-(u30 - a2)).toInt64 &&& 63))) else ((f_Nt_nearestEven a1 (u30 - a2)).bind fun u58 => f_Sz_rounded_69 o u30 u58)) else (some (0 : Int64)) else none else none)) = some r := hf
  refine lv_lload_n S.1 S.2.1 d_Sz_rounded_0 rfl (lv_at hl 1 rfl) ?_
  refine lv_lconst (v := 0) S.1 S.2.1 d_Sz_rounded_1 (by decide) ?_
  refine W.lcmp S.1 S.2.1 d_Sz_rounded_2 ?_
  refine lv_if_ne (tgt := 8) S.1 S.2.1 d_Sz_rounded_3 (by decide) (fun h => ?_) (fun h => ?_)
  ·
    have h : ¬ a1 = (0 : Int64) := fun q => h ((lg_cmp_eq _ _).mpr q)
    have hf := gx_ifn h hf
    refine lv_bipush (v := 64) S.1 S.2.1 d_Sz_rounded_8 (by decide) ?_
    refine lv_lload_n S.1 S.2.1 d_Sz_rounded_10 rfl (lv_at hl 1 rfl) ?_
    obtain ⟨u11, hc11, hf⟩ := gx_bnd hf
    refine gx_Si (ws2 := (ww_Sz_rounded g )) S E hS hP hD (c_JLong_numberOfLeadingZeros l z D g a1 u11 hc11) cal_JLong_numberOfLeadingZeros wd_490 wd_871 rfl [] rfl rfl rfl rfl hl.1 rfl d_Sz_rounded_11 ⟨Nat.zero_le _, Nat.zero_le _⟩ rfl (fun H locs hS hP hD => ?_)
    refine lv_isub S.1 S.2.1 d_Sz_rounded_14 ?_
    refine lv_istore (lv' := [(4, .int ((64 : Int32) - u11)), (0, .ref (g (11 + o))), (1, .long a1), (3, .int a2)]) S.1 S.2.1 d_Sz_rounded_15 hl (by decide) rfl (fun ls hl => ?_)
    refine lv_iload_n S.1 S.2.1 d_Sz_rounded_17 rfl (lv_at hl 3 rfl) ?_
    refine lv_iload S.1 S.2.1 d_Sz_rounded_18 (lv_at hl 0 rfl) ?_
    refine lv_iadd S.1 S.2.1 d_Sz_rounded_20 ?_
    refine lv_aload_n S.1 S.2.1 d_Sz_rounded_21 rfl (lv_at hl 1 rfl) ?_
    obtain ⟨hsm, hf⟩ := gx_chk hf
    refine vk_getf (v := .int ((gx_sz 0).getD o 0)) S.1 S.2.1 (gx_szF E hsm szm_0) hS S.2.2.2.1 (S.2.2.2.2 _ wd_1838) (fun _ h => h) d_Sz_rounded_22 ?_
    refine lv_isub S.1 S.2.1 d_Sz_rounded_25 ?_
    refine lv_aload_n S.1 S.2.1 d_Sz_rounded_26 rfl (lv_at hl 1 rfl) ?_
    obtain ⟨hsm, hf⟩ := gx_chk hf
    refine vk_getf (v := .int ((gx_sz 1).getD o 0)) S.1 S.2.1 (gx_szF E hsm szm_1) hS S.2.2.2.1 (S.2.2.2.2 _ wd_1841) (fun _ h => h) d_Sz_rounded_27 ?_
    obtain ⟨u30, hc30, hf⟩ := gx_bnd hf
    refine gx_Si (ws2 := (ww_Sz_rounded g )) S E hS hP hD (c_JMath_max l z D g ((a2 + ((64 : Int32) - u11)) - ((gx_sz 0).getD o 0)) ((gx_sz 1).getD o 0) u30 hc30) cal_JMath_max wd_411 wd_872 rfl [] rfl rfl rfl rfl hl.1 rfl d_Sz_rounded_30 ⟨Nat.zero_le _, Nat.zero_le _⟩ rfl (fun H locs hS hP hD => ?_)
    refine lv_istore (lv' := [(5, .int u30), (4, .int ((64 : Int32) - u11)), (0, .ref (g (11 + o))), (1, .long a1), (3, .int a2)]) S.1 S.2.1 d_Sz_rounded_33 hl (by decide) rfl (fun ls hl => ?_)
    refine lv_iload S.1 S.2.1 d_Sz_rounded_35 (lv_at hl 0 rfl) ?_
    refine lv_iload_n S.1 S.2.1 d_Sz_rounded_37 rfl (lv_at hl 4 rfl) ?_
    refine lv_isub S.1 S.2.1 d_Sz_rounded_38 ?_
    refine lv_istore (lv' := [(6, .int (u30 - a2)), (5, .int u30), (4, .int ((64 : Int32) - u11)), (0, .ref (g (11 + o))), (1, .long a1), (3, .int a2)]) S.1 S.2.1 d_Sz_rounded_39 hl (by decide) rfl (fun ls hl => ?_)
    refine lv_iload S.1 S.2.1 d_Sz_rounded_41 (lv_at hl 0 rfl) ?_
    refine lv_bipush (v := 62) S.1 S.2.1 d_Sz_rounded_43 (by decide) ?_
    refine lv_icmp_le (tgt := 50) S.1 S.2.1 d_Sz_rounded_45 (by decide) (fun h => ?_) (fun h => ?_)
    ·
      have hf := gx_ifp h hf
      refine lv_iload S.1 S.2.1 d_Sz_rounded_50 (lv_at hl 0 rfl) ?_
      refine lv_if_le (tgt := 64) S.1 S.2.1 d_Sz_rounded_52 (by decide) (fun h => ?_) (fun h => ?_)
      ·
        have hf := gx_ifp h hf
        refine lv_lload_n S.1 S.2.1 d_Sz_rounded_64 rfl (lv_at hl 4 rfl) ?_
        refine lv_iload S.1 S.2.1 d_Sz_rounded_65 (lv_at hl 0 rfl) ?_
        refine lv_ineg S.1 S.2.1 d_Sz_rounded_67 ?_
        refine lv_lshl S.1 S.2.1 d_Sz_rounded_68 rfl ?_
        exact c_69 o u30 (a1 <<< ((-(u30 - a2)).toInt64 &&& 63)) ls _ _ (lv_sub hl [3, 1] rfl) hS hP hD hf
      ·
        have hf := gx_ifn h hf
        refine lv_lload_n S.1 S.2.1 d_Sz_rounded_55 rfl (lv_at hl 4 rfl) ?_
        refine lv_iload S.1 S.2.1 d_Sz_rounded_56 (lv_at hl 0 rfl) ?_
        obtain ⟨u58, hc58, hf⟩ := gx_bnd hf
        refine gx_Tl (ws2 := (ww_Sz_rounded g )) S E hS hP hD (c_Nt_nearestEven l z D g a1 (u30 - a2) u58 hc58) cal_Nt_nearestEven wd_874 nst_10 rfl [] rfl rfl rfl rfl hl.1 rfl d_Sz_rounded_58 ⟨Nat.zero_le _, Nat.zero_le _⟩ rfl (fun H locs hS hP hD => ?_)
        refine lv_goto (tgt := 69) S.1 S.2.1 d_Sz_rounded_61 (by decide) ?_
        exact c_69 o u30 u58 ls _ _ (lv_sub hl [3, 1] rfl) hS hP hD hf
    ·
      have hf := gx_ifn h hf
      refine lv_lconst (v := 0) S.1 S.2.1 d_Sz_rounded_48 (by decide) ?_
      obtain rfl := Option.some.inj hf
      exact gx_rl S hr hlk hS hP hD d_Sz_rounded_49
  ·
    have h : a1 = (0 : Int64) := (lg_cmp_eq _ _).mp h
    have hf := gx_ifp h hf
    refine lv_lconst (v := 0) S.1 S.2.1 d_Sz_rounded_6 (by decide) ?_
    obtain rfl := Option.some.inj hf
    exact gx_rl S hr hlk hS hP hD d_Sz_rounded_7
theorem d_Bi_take_0 : decode b_Bi_take 0 = .ok (.aload_n 0, 1) := by decide +kernel
theorem d_Bi_take_1 : decode b_Bi_take 1 = .ok (.aload_n 1, 1) := by decide +kernel
theorem d_Bi_take_2 : decode b_Bi_take 2 = .ok (.putfield 13, 3) := by decide +kernel
theorem d_Bi_take_5 : decode b_Bi_take 5 = .ok (.lload_n 2, 1) := by decide +kernel
theorem d_Bi_take_6 : decode b_Bi_take 6 = .ok (.aload_n 1, 1) := by decide +kernel
theorem d_Bi_take_7 : decode b_Bi_take 7 = .ok (.invokevirtual 36, 3) := by decide +kernel
theorem d_Bi_take_10 : decode b_Bi_take 10 = .ok (.land, 1) := by decide +kernel
theorem d_Bi_take_11 : decode b_Bi_take 11 = .ok (.lstore 4, 2) := by decide +kernel
theorem d_Bi_take_13 : decode b_Bi_take 13 = .ok (.lload_n 2, 1) := by decide +kernel
theorem d_Bi_take_14 : decode b_Bi_take 14 = .ok (.aload_n 1, 1) := by decide +kernel
theorem d_Bi_take_15 : decode b_Bi_take 15 = .ok (.getfield 40, 3) := by decide +kernel
theorem d_Bi_take_18 : decode b_Bi_take 18 = .ok (.iconst 1, 1) := by decide +kernel
theorem d_Bi_take_19 : decode b_Bi_take 19 = .ok (.isub, 1) := by decide +kernel
theorem d_Bi_take_20 : decode b_Bi_take 20 = .ok (.lushr, 1) := by decide +kernel
theorem d_Bi_take_21 : decode b_Bi_take 21 = .ok (.l2i, 1) := by decide +kernel
theorem d_Bi_take_22 : decode b_Bi_take 22 = .ok (.aload_n 1, 1) := by decide +kernel
theorem d_Bi_take_23 : decode b_Bi_take 23 = .ok (.invokevirtual 43, 3) := by decide +kernel
theorem d_Bi_take_26 : decode b_Bi_take 26 = .ok (.iand, 1) := by decide +kernel
theorem d_Bi_take_27 : decode b_Bi_take 27 = .ok (.istore 6, 2) := by decide +kernel
theorem d_Bi_take_29 : decode b_Bi_take 29 = .ok (.iload 6, 2) := by decide +kernel
theorem d_Bi_take_31 : decode b_Bi_take 31 = .ok (.aload_n 1, 1) := by decide +kernel
theorem d_Bi_take_32 : decode b_Bi_take 32 = .ok (.invokevirtual 43, 3) := by decide +kernel
theorem d_Bi_take_35 : decode b_Bi_take 35 = .ok (.if_icmp .ne 7, 3) := by decide +kernel
theorem d_Bi_take_38 : decode b_Bi_take 38 = .ok (.iconst 1, 1) := by decide +kernel
theorem d_Bi_take_39 : decode b_Bi_take 39 = .ok (.goto 4, 3) := by decide +kernel
theorem d_Bi_take_42 : decode b_Bi_take 42 = .ok (.iconst 0, 1) := by decide +kernel
theorem d_Bi_take_43 : decode b_Bi_take 43 = .ok (.istore 7, 2) := by decide +kernel
theorem d_Bi_take_45 : decode b_Bi_take 45 = .ok (.aload_n 0, 1) := by decide +kernel
theorem d_Bi_take_46 : decode b_Bi_take 46 = .ok (.iload 7, 2) := by decide +kernel
theorem d_Bi_take_48 : decode b_Bi_take 48 = .ok (.ifCond .eq 14, 3) := by decide +kernel
theorem d_Bi_take_51 : decode b_Bi_take 51 = .ok (.lload 4, 2) := by decide +kernel
theorem d_Bi_take_53 : decode b_Bi_take 53 = .ok (.lconst 0, 1) := by decide +kernel
theorem d_Bi_take_54 : decode b_Bi_take 54 = .ok (.lcmp, 1) := by decide +kernel
theorem d_Bi_take_55 : decode b_Bi_take 55 = .ok (.ifCond .eq 7, 3) := by decide +kernel
theorem d_Bi_take_58 : decode b_Bi_take 58 = .ok (.iconst 1, 1) := by decide +kernel
theorem d_Bi_take_59 : decode b_Bi_take 59 = .ok (.goto 4, 3) := by decide +kernel
theorem d_Bi_take_62 : decode b_Bi_take 62 = .ok (.iconst 0, 1) := by decide +kernel
theorem d_Bi_take_63 : decode b_Bi_take 63 = .ok (.putfield 22, 3) := by decide +kernel
theorem d_Bi_take_66 : decode b_Bi_take 66 = .ok (.aload_n 0, 1) := by decide +kernel
theorem d_Bi_take_67 : decode b_Bi_take 67 = .ok (.iload 7, 2) := by decide +kernel
theorem d_Bi_take_69 : decode b_Bi_take 69 = .ok (.ifCond .eq 14, 3) := by decide +kernel
theorem d_Bi_take_72 : decode b_Bi_take 72 = .ok (.lload 4, 2) := by decide +kernel
theorem d_Bi_take_74 : decode b_Bi_take 74 = .ok (.lconst 0, 1) := by decide +kernel
theorem d_Bi_take_75 : decode b_Bi_take 75 = .ok (.lcmp, 1) := by decide +kernel
theorem d_Bi_take_76 : decode b_Bi_take 76 = .ok (.ifCond .ne 7, 3) := by decide +kernel
theorem d_Bi_take_79 : decode b_Bi_take 79 = .ok (.iconst 1, 1) := by decide +kernel
theorem d_Bi_take_80 : decode b_Bi_take 80 = .ok (.goto 4, 3) := by decide +kernel
theorem d_Bi_take_83 : decode b_Bi_take 83 = .ok (.iconst 0, 1) := by decide +kernel
theorem d_Bi_take_84 : decode b_Bi_take 84 = .ok (.putfield 25, 3) := by decide +kernel
theorem d_Bi_take_87 : decode b_Bi_take 87 = .ok (.aload_n 0, 1) := by decide +kernel
theorem d_Bi_take_88 : decode b_Bi_take 88 = .ok (.aload_n 0, 1) := by decide +kernel
theorem d_Bi_take_89 : decode b_Bi_take 89 = .ok (.getfield 22, 3) := by decide +kernel
theorem d_Bi_take_92 : decode b_Bi_take 92 = .ok (.ifCond .ne 20, 3) := by decide +kernel
theorem d_Bi_take_95 : decode b_Bi_take 95 = .ok (.lload_n 2, 1) := by decide +kernel
theorem d_Bi_take_96 : decode b_Bi_take 96 = .ok (.aload_n 1, 1) := by decide +kernel
theorem d_Bi_take_97 : decode b_Bi_take 97 = .ok (.getfield 47, 3) := by decide +kernel
theorem d_Bi_take_100 : decode b_Bi_take 100 = .ok (.lushr, 1) := by decide +kernel
theorem d_Bi_take_101 : decode b_Bi_take 101 = .ok (.lconst 1, 1) := by decide +kernel
theorem d_Bi_take_102 : decode b_Bi_take 102 = .ok (.land, 1) := by decide +kernel
theorem d_Bi_take_103 : decode b_Bi_take 103 = .ok (.lconst 0, 1) := by decide +kernel
theorem d_Bi_take_104 : decode b_Bi_take 104 = .ok (.lcmp, 1) := by decide +kernel
theorem d_Bi_take_105 : decode b_Bi_take 105 = .ok (.ifCond .eq 7, 3) := by decide +kernel
theorem d_Bi_take_108 : decode b_Bi_take 108 = .ok (.iconst 1, 1) := by decide +kernel
theorem d_Bi_take_109 : decode b_Bi_take 109 = .ok (.goto 4, 3) := by decide +kernel
theorem d_Bi_take_112 : decode b_Bi_take 112 = .ok (.iconst 0, 1) := by decide +kernel
theorem d_Bi_take_113 : decode b_Bi_take 113 = .ok (.putfield 18, 3) := by decide +kernel
theorem d_Bi_take_116 : decode b_Bi_take 116 = .ok (.aload_n 0, 1) := by decide +kernel
theorem d_Bi_take_117 : decode b_Bi_take 117 = .ok (.iload 6, 2) := by decide +kernel
theorem d_Bi_take_119 : decode b_Bi_take 119 = .ok (.ifCond .ne 8, 3) := by decide +kernel
theorem d_Bi_take_122 : decode b_Bi_take 122 = .ok (.lload 4, 2) := by decide +kernel
theorem d_Bi_take_124 : decode b_Bi_take 124 = .ok (.goto 14, 3) := by decide +kernel
theorem d_Bi_take_127 : decode b_Bi_take 127 = .ok (.lload 4, 2) := by decide +kernel
theorem d_Bi_take_129 : decode b_Bi_take 129 = .ok (.lconst 1, 1) := by decide +kernel
theorem d_Bi_take_130 : decode b_Bi_take 130 = .ok (.aload_n 1, 1) := by decide +kernel
theorem d_Bi_take_131 : decode b_Bi_take 131 = .ok (.getfield 40, 3) := by decide +kernel
theorem d_Bi_take_134 : decode b_Bi_take 134 = .ok (.iconst 1, 1) := by decide +kernel
theorem d_Bi_take_135 : decode b_Bi_take 135 = .ok (.isub, 1) := by decide +kernel
theorem d_Bi_take_136 : decode b_Bi_take 136 = .ok (.lshl, 1) := by decide +kernel
theorem d_Bi_take_137 : decode b_Bi_take 137 = .ok (.lor, 1) := by decide +kernel
theorem d_Bi_take_138 : decode b_Bi_take 138 = .ok (.putfield 28, 3) := by decide +kernel
theorem d_Bi_take_141 : decode b_Bi_take 141 = .ok (.aload_n 0, 1) := by decide +kernel
theorem d_Bi_take_142 : decode b_Bi_take 142 = .ok (.aload_n 1, 1) := by decide +kernel
theorem d_Bi_take_143 : decode b_Bi_take 143 = .ok (.getfield 50, 3) := by decide +kernel
theorem d_Bi_take_146 : decode b_Bi_take 146 = .ok (.iload 6, 2) := by decide +kernel
theorem d_Bi_take_148 : decode b_Bi_take 148 = .ok (.iconst 1, 1) := by decide +kernel
theorem d_Bi_take_149 : decode b_Bi_take 149 = .ok (.isub, 1) := by decide +kernel
theorem d_Bi_take_150 : decode b_Bi_take 150 = .ok (.iconst 0, 1) := by decide +kernel
theorem d_Bi_take_151 : decode b_Bi_take 151 = .ok (.invokestatic 53, 3) := by decide +kernel
theorem d_Bi_take_154 : decode b_Bi_take 154 = .ok (.iadd, 1) := by decide +kernel
theorem d_Bi_take_155 : decode b_Bi_take 155 = .ok (.putfield 32, 3) := by decide +kernel
theorem d_Bi_take_158 : decode b_Bi_take 158 = .ok (.return_, 1) := by decide +kernel
theorem cal_Bi_take : gx_cal y_Bi_take b_Bi_take 8 none 2 := ⟨wd_401, wd_6, by decide +kernel⟩
def ww_Bi_take (g : Nat → ClassId) (o : Nat) (x_o_size : Nat) (x_o_negative : Int32) (x_o_notANumber : Int32) (x_o_infinite : Int32) (x_o_c : Int64) (x_o_q : Int32) : va_W := [(o, .inr (2, [.ref (g (11 + x_o_size)), .int x_o_negative, .int x_o_notANumber, .int x_o_infinite, .long x_o_c, .int x_o_q]))]
def f_Bi_take_138 (v1 : Nat) (v6 : Int32) (t0 : Int64) (o_notANumberq : Int32) (o_sizeq : Nat) (o_infiniteq : Int32) (o_negativeq : Int32) (o_cq : Int64) (o_qq : Int32) : Option (Int32 × Nat × Int32 × Int32 × Int64 × Int32) := if v1 < 2 then (f_JMath_max (v6 - (1 : Int32)) (0 : Int32)).bind fun u151 => some (o_notANumberq, o_sizeq, o_infiniteq, o_negativeq, t0, ((gx_sz 1).getD v1 0) + u151) else none
def f_Bi_take_113 (v1 : Nat) (v4 : Int64) (v6 : Int32) (t0 : Int32) (o_notANumberq : Int32) (o_sizeq : Nat) (o_infiniteq : Int32) (o_negativeq : Int32) (o_cq : Int64) (o_qq : Int32) : Option (Int32 × Nat × Int32 × Int32 × Int64 × Int32) := if gx_bo t0 = true then if v6 = 0 then (f_Bi_take_138 v1 v6 v4 o_notANumberq o_sizeq o_infiniteq t0 o_cq o_qq) else (if v1 < 2 then f_Bi_take_138 v1 v6 (v4 ||| ((1 : Int64) <<< ((((gx_sz 0).getD v1 0) - (1 : Int32)).toInt64 &&& 63))) o_notANumberq o_sizeq o_infiniteq t0 o_cq o_qq else none) else none
def f_Bi_take_112 (v1 : Nat) (v4 : Int64) (v6 : Int32) (o_notANumberq : Int32) (o_sizeq : Nat) (o_infiniteq : Int32) (o_negativeq : Int32) (o_cq : Int64) (o_qq : Int32) : Option (Int32 × Nat × Int32 × Int32 × Int64 × Int32) := f_Bi_take_113 v1 v4 v6 (0 : Int32) o_notANumberq o_sizeq o_infiniteq o_negativeq o_cq o_qq
def f_Bi_take_84 (v1 : Nat) (v2 : Int64) (v4 : Int64) (v6 : Int32) (t0 : Int32) (o_notANumberq : Int32) (o_sizeq : Nat) (o_infiniteq : Int32) (o_negativeq : Int32) (o_cq : Int64) (o_qq : Int32) : Option (Int32 × Nat × Int32 × Int32 × Int64 × Int32) := if gx_bo t0 = true then if o_notANumberq = 0 then (if v1 < 2 then if (((v2.toUInt64 >>> (((gx_sz 3).getD v1 0).toInt64.toUInt64 &&& Int64.toUInt64 63)).toInt64) &&& (1 : Int64)) = (0 : Int64) then (f_Bi_take_112 v1 v4 v6 o_notANumberq o_sizeq t0 o_negativeq o_cq o_qq) else (f_Bi_take_113 v1 v4 v6 (1 : Int32) o_notANumberq o_sizeq t0 o_negativeq o_cq o_qq) else none) else (f_Bi_take_112 v1 v4 v6 o_notANumberq o_sizeq t0 o_negativeq o_cq o_qq) else none
def f_Bi_take_83 (v1 : Nat) (v2 : Int64) (v4 : Int64) (v6 : Int32) (o_notANumberq : Int32) (o_sizeq : Nat) (o_infiniteq : Int32) (o_negativeq : Int32) (o_cq : Int64) (o_qq : Int32) : Option (Int32 × Nat × Int32 × Int32 × Int64 × Int32) := f_Bi_take_84 v1 v2 v4 v6 (0 : Int32) o_notANumberq o_sizeq o_infiniteq o_negativeq o_cq o_qq
def f_Bi_take_63 (v1 : Nat) (v2 : Int64) (v4 : Int64) (v6 : Int32) (v7 : Int32) (t0 : Int32) (o_notANumberq : Int32) (o_sizeq : Nat) (o_infiniteq : Int32) (o_negativeq : Int32) (o_cq : Int64) (o_qq : Int32) : Option (Int32 × Nat × Int32 × Int32 × Int64 × Int32) := if gx_bo t0 = true then if v7 = 0 then (f_Bi_take_83 v1 v2 v4 v6 t0 o_sizeq o_infiniteq o_negativeq o_cq o_qq) else (if v4 = (0 : Int64) then (f_Bi_take_84 v1 v2 v4 v6 (1 : Int32) t0 o_sizeq o_infiniteq o_negativeq o_cq o_qq) else (f_Bi_take_83 v1 v2 v4 v6 t0 o_sizeq o_infiniteq o_negativeq o_cq o_qq)) else none
def f_Bi_take_62 (v1 : Nat) (v2 : Int64) (v4 : Int64) (v6 : Int32) (v7 : Int32) (o_notANumberq : Int32) (o_sizeq : Nat) (o_infiniteq : Int32) (o_negativeq : Int32) (o_cq : Int64) (o_qq : Int32) : Option (Int32 × Nat × Int32 × Int32 × Int64 × Int32) := f_Bi_take_63 v1 v2 v4 v6 v7 (0 : Int32) o_notANumberq o_sizeq o_infiniteq o_negativeq o_cq o_qq
def f_Bi_take_43 (v1 : Nat) (v2 : Int64) (v4 : Int64) (v6 : Int32) (t0 : Int32) (o_notANumberq : Int32) (o_sizeq : Nat) (o_infiniteq : Int32) (o_negativeq : Int32) (o_cq : Int64) (o_qq : Int32) : Option (Int32 × Nat × Int32 × Int32 × Int64 × Int32) := if t0 = 0 then (f_Bi_take_62 v1 v2 v4 v6 t0 o_notANumberq o_sizeq o_infiniteq o_negativeq o_cq o_qq) else (if v4 = (0 : Int64) then (f_Bi_take_62 v1 v2 v4 v6 t0 o_notANumberq o_sizeq o_infiniteq o_negativeq o_cq o_qq) else (f_Bi_take_63 v1 v2 v4 v6 t0 (1 : Int32) o_notANumberq o_sizeq o_infiniteq o_negativeq o_cq o_qq))
def f_Bi_take (a1 : Nat) (a2 : Int64) (o_notANumber : Int32) (o_size : Nat) (o_infinite : Int32) (o_negative : Int32) (o_c : Int64) (o_q : Int32) : Option (Int32 × Nat × Int32 × Int32 × Int64 × Int32) := if a1 < 2 then (f_Sz_fractionMask a1).bind fun u7 => if a1 < 2 then if a1 < 2 then (f_Sz_exponentMask a1).bind fun u23 => if a1 < 2 then (f_Sz_exponentMask a1).bind fun u32 => if ((((a2.toUInt64 >>> ((((gx_sz 0).getD a1 0) - (1 : Int32)).toInt64.toUInt64 &&& Int64.toUInt64 63)).toInt64).toInt32) &&& u23) = u32 then (f_Bi_take_43 a1 a2 (a2 &&& u7) ((((a2.toUInt64 >>> ((((gx_sz 0).getD a1 0) - (1 : Int32)).toInt64.toUInt64 &&& Int64.toUInt64 63)).toInt64).toInt32) &&& u23) (1 : Int32) o_notANumber a1 o_infinite o_negative o_c o_q) else (f_Bi_take_43 a1 a2 (a2 &&& u7) ((((a2.toUInt64 >>> ((((gx_sz 0).getD a1 0) - (1 : Int32)).toInt64.toUInt64 &&& Int64.toUInt64 63)).toInt64).toInt32) &&& u23) (0 : Int32) o_notANumber a1 o_infinite o_negative o_c o_q) else none else none else none else none
set_option maxHeartbeats 4000000 in
set_option maxRecDepth 100000 in
theorem c_Bi_take (l : Launch) (z : State) (D : va_G) (g : Nat → ClassId) (o : Nat) (o_size : Nat) (o_negative : Int32) (o_notANumber : Int32) (o_infinite : Int32) (o_c : Int64) (o_q : Int32) (a1 : Nat) (a2 : Int64) (r : Int32 × Nat × Int32 × Int32 × Int64 × Int32) (hf : f_Bi_take a1 a2 o_notANumber o_size o_infinite o_negative o_c o_q = some r) : gx_Mv l z D g y_Bi_take b_Bi_take 8 ({ frames := 1, cells := 0, slots := 0, locals := 21 } : Room) [.ref o, .ref (g (11 + a1)), .long a2] (ww_Bi_take g o o_size o_negative o_notANumber o_infinite o_c o_q) (ww_Bi_take g o r.2.1 r.2.2.2.1 r.1 r.2.2.1 r.2.2.2.2.1 r.2.2.2.2.2) := by
  refine gx_go (by decide +kernel) rfl ?_
  intro p e s m below meth c ls S hr hlk hnm E hP hD hl
  have hS : va_S (va_A (ww_Bi_take g o o_size o_negative o_notANumber o_infinite o_c o_q) s.heap.size) s.heap s.heap [] := va_S.rf
  have hl : lv_has ls 8 [(0, .ref o), (1, .ref (g (11 + a1))), (2, .long a2)] := hl
  have c_138 : ∀ (v1 : Nat) (v6 : Int32) (t0 : Int64) (o_notANumberq : Int32) (o_sizeq : Nat) (o_infiniteq : Int32) (o_negativeq : Int32) (o_cq : Int64) (o_qq : Int32) (ls : Array Slot) (H : Heap) (locs : List Loc), lv_has ls 8 [(0, .ref o), (1, .ref (g (11 + v1))), (6, .int v6)] → va_S (va_A (ww_Bi_take g o o_size o_negative o_notANumber o_infinite o_c o_q) s.heap.size) s.heap H locs → va_P D vwC (ww_Bi_take g o o_sizeq o_negativeq o_notANumberq o_infiniteq o_cq o_qq) H → va_D (va_A (ww_Bi_take g o o_size o_negative o_notANumber o_infinite o_c o_q) s.heap.size) (ww_Bi_take g o o_sizeq o_negativeq o_notANumberq o_infiniteq o_cq o_qq) → (f_Bi_take_138 v1 v6 t0 o_notANumberq o_sizeq o_infiniteq o_negativeq o_cq o_qq) = some r → W p l e ({ frames := 1, cells := 0, slots := 0, locals := 21 } : Room) s m ([.ref o, .ref (g (11 + a1)), .long a2] : List Value).toArray below meth c H locs 0 0 (MQ below (gx_Qv D (ww_Bi_take g o o_size o_negative o_notANumber o_infinite o_c o_q) (ww_Bi_take g o r.2.1 r.2.2.2.1 r.1 r.2.2.1 r.2.2.2.2.1 r.2.2.2.2.2) s.heap.size) ([.ref o, .ref (g (11 + a1)), .long a2] : List Value).toArray s 0 0 (va_A (ww_Bi_take g o o_size o_negative o_notANumber o_infinite o_c o_q) s.heap.size)) (F0 m 138 ls [.long t0, .ref o]) := by
    intro v1 v6 t0 o_notANumberq o_sizeq o_infiniteq o_negativeq o_cq o_qq ls H locs hl hS hP hD hf
    have hf : (if v1 < 2 then (f_JMath_max (v6 - (1 : Int32)) (0 : Int32)).bind fun u151 => some (o_notANumberq, o_sizeq, o_infiniteq, o_negativeq, t0, ((gx_sz 1).getD v1 0) + u151) else none) = some r := hf
    refine gx_pf (v := .long t0) (ws2 := (ww_Bi_take g o o_sizeq o_negativeq o_notANumberq o_infiniteq t0 o_qq)) S E hS hP hD 0 rfl rfl i_Bi k_Bi n_Bi 4 rfl wd_175 ⟨rfl, rfl, rfl, rfl⟩ rfl rfl rfl d_Bi_take_138 rfl (fun H locs hS hP hD => ?_)
    refine lv_aload_n S.1 S.2.1 d_Bi_take_141 rfl (lv_at hl 0 rfl) ?_
    refine lv_aload_n S.1 S.2.1 d_Bi_take_142 rfl (lv_at hl 1 rfl) ?_
    obtain ⟨hsm, hf⟩ := gx_chk hf
    refine vk_getf (v := .int ((gx_sz 1).getD v1 0)) S.1 S.2.1 (gx_szF E hsm szm_1) hS S.2.2.2.1 (S.2.2.2.2 _ wd_1843) (fun _ h => h) d_Bi_take_143 ?_
    refine lv_iload S.1 S.2.1 d_Bi_take_146 (lv_at hl 2 rfl) ?_
    refine lv_iconst (v := 1) S.1 S.2.1 d_Bi_take_148 (by decide) ?_
    refine lv_isub S.1 S.2.1 d_Bi_take_149 ?_
    refine lv_iconst (v := 0) S.1 S.2.1 d_Bi_take_150 (by decide) ?_
    obtain ⟨u151, hc151, hf⟩ := gx_bnd hf
    refine gx_Si (ws2 := (ww_Bi_take g o o_sizeq o_negativeq o_notANumberq o_infiniteq t0 o_qq)) S E hS hP hD (c_JMath_max l z D g (v6 - (1 : Int32)) (0 : Int32) u151 hc151) cal_JMath_max wd_411 wd_410 rfl [] rfl rfl rfl rfl hl.1 rfl d_Bi_take_151 ⟨Nat.zero_le _, Nat.zero_le _⟩ rfl (fun H locs hS hP hD => ?_)
    refine lv_iadd S.1 S.2.1 d_Bi_take_154 ?_
    refine gx_pf (v := .int (((gx_sz 1).getD v1 0) + u151)) (ws2 := (ww_Bi_take g o o_sizeq o_negativeq o_notANumberq o_infiniteq t0 (((gx_sz 1).getD v1 0) + u151))) S E hS hP hD 0 rfl rfl i_Bi k_Bi n_Bi 5 rfl wd_178 ⟨rfl, rfl, rfl, rfl⟩ rfl rfl rfl d_Bi_take_155 rfl (fun H locs hS hP hD => ?_)
    obtain rfl := Option.some.inj hf
    exact gx_rv S hr hlk hS hP hD d_Bi_take_158
  have c_113 : ∀ (v1 : Nat) (v4 : Int64) (v6 : Int32) (t0 : Int32) (o_notANumberq : Int32) (o_sizeq : Nat) (o_infiniteq : Int32) (o_negativeq : Int32) (o_cq : Int64) (o_qq : Int32) (ls : Array Slot) (H : Heap) (locs : List Loc), lv_has ls 8 [(0, .ref o), (1, .ref (g (11 + v1))), (4, .long v4), (6, .int v6)] → va_S (va_A (ww_Bi_take g o o_size o_negative o_notANumber o_infinite o_c o_q) s.heap.size) s.heap H locs → va_P D vwC (ww_Bi_take g o o_sizeq o_negativeq o_notANumberq o_infiniteq o_cq o_qq) H → va_D (va_A (ww_Bi_take g o o_size o_negative o_notANumber o_infinite o_c o_q) s.heap.size) (ww_Bi_take g o o_sizeq o_negativeq o_notANumberq o_infiniteq o_cq o_qq) → (f_Bi_take_113 v1 v4 v6 t0 o_notANumberq o_sizeq o_infiniteq o_negativeq o_cq o_qq) = some r → W p l e ({ frames := 1, cells := 0, slots := 0, locals := 21 } : Room) s m ([.ref o, .ref (g (11 + a1)), .long a2] : List Value).toArray below meth c H locs 0 0 (MQ below (gx_Qv D (ww_Bi_take g o o_size o_negative o_notANumber o_infinite o_c o_q) (ww_Bi_take g o r.2.1 r.2.2.2.1 r.1 r.2.2.1 r.2.2.2.2.1 r.2.2.2.2.2) s.heap.size) ([.ref o, .ref (g (11 + a1)), .long a2] : List Value).toArray s 0 0 (va_A (ww_Bi_take g o o_size o_negative o_notANumber o_infinite o_c o_q) s.heap.size)) (F0 m 113 ls [.int t0, .ref o]) := by
    intro v1 v4 v6 t0 o_notANumberq o_sizeq o_infiniteq o_negativeq o_cq o_qq ls H locs hl hS hP hD hf
    have hf : (if gx_bo t0 = true then if v6 = 0 then (f_Bi_take_138 v1 v6 v4 o_notANumberq o_sizeq o_infiniteq t0 o_cq o_qq) else (if v1 < 2 then f_Bi_take_138 v1 v6 (v4 ||| ((1 : Int64) <<< ((((gx_sz 0).getD v1 0) - (1 : Int32)).toInt64 &&& 63))) o_notANumberq o_sizeq o_infiniteq t0 o_cq o_qq else none) else none) = some r := hf
    obtain ⟨hbo, hf⟩ := gx_chk hf
    refine gx_pf (v := .int t0) (ws2 := (ww_Bi_take g o o_sizeq t0 o_notANumberq o_infiniteq o_cq o_qq)) S E hS hP hD 0 rfl rfl i_Bi k_Bi n_Bi 1 rfl wd_166 ⟨rfl, rfl, rfl, rfl⟩ (gx_bo_n hbo) (gx_bo_f hbo) rfl d_Bi_take_113 rfl (fun H locs hS hP hD => ?_)
    refine lv_aload_n S.1 S.2.1 d_Bi_take_116 rfl (lv_at hl 0 rfl) ?_
    refine lv_iload S.1 S.2.1 d_Bi_take_117 (lv_at hl 3 rfl) ?_
    refine lv_if_ne (tgt := 127) S.1 S.2.1 d_Bi_take_119 (by decide) (fun h => ?_) (fun h => ?_)
    ·
      have hf := gx_ifn h hf
      refine lv_lload S.1 S.2.1 d_Bi_take_127 (lv_at hl 2 rfl) ?_
      refine lv_lconst (v := 1) S.1 S.2.1 d_Bi_take_129 (by decide) ?_
      refine lv_aload_n S.1 S.2.1 d_Bi_take_130 rfl (lv_at hl 1 rfl) ?_
      obtain ⟨hsm, hf⟩ := gx_chk hf
      refine vk_getf (v := .int ((gx_sz 0).getD v1 0)) S.1 S.2.1 (gx_szF E hsm szm_0) hS S.2.2.2.1 (S.2.2.2.2 _ wd_1839) (fun _ h => h) d_Bi_take_131 ?_
      refine lv_iconst (v := 1) S.1 S.2.1 d_Bi_take_134 (by decide) ?_
      refine lv_isub S.1 S.2.1 d_Bi_take_135 ?_
      refine lv_lshl S.1 S.2.1 d_Bi_take_136 rfl ?_
      refine lv_lor S.1 S.2.1 d_Bi_take_137 ?_
      exact c_138 v1 v6 (v4 ||| ((1 : Int64) <<< ((((gx_sz 0).getD v1 0) - (1 : Int32)).toInt64 &&& 63))) o_notANumberq o_sizeq o_infiniteq t0 o_cq o_qq ls _ _ (lv_sub hl [0, 1, 3] rfl) hS hP hD hf
    ·
      have hf := gx_ifp h hf
      refine lv_lload S.1 S.2.1 d_Bi_take_122 (lv_at hl 2 rfl) ?_
      refine lv_goto (tgt := 138) S.1 S.2.1 d_Bi_take_124 (by decide) ?_
      exact c_138 v1 v6 v4 o_notANumberq o_sizeq o_infiniteq t0 o_cq o_qq ls _ _ (lv_sub hl [0, 1, 3] rfl) hS hP hD hf
  have c_112 : ∀ (v1 : Nat) (v4 : Int64) (v6 : Int32) (o_notANumberq : Int32) (o_sizeq : Nat) (o_infiniteq : Int32) (o_negativeq : Int32) (o_cq : Int64) (o_qq : Int32) (ls : Array Slot) (H : Heap) (locs : List Loc), lv_has ls 8 [(0, .ref o), (1, .ref (g (11 + v1))), (4, .long v4), (6, .int v6)] → va_S (va_A (ww_Bi_take g o o_size o_negative o_notANumber o_infinite o_c o_q) s.heap.size) s.heap H locs → va_P D vwC (ww_Bi_take g o o_sizeq o_negativeq o_notANumberq o_infiniteq o_cq o_qq) H → va_D (va_A (ww_Bi_take g o o_size o_negative o_notANumber o_infinite o_c o_q) s.heap.size) (ww_Bi_take g o o_sizeq o_negativeq o_notANumberq o_infiniteq o_cq o_qq) → (f_Bi_take_112 v1 v4 v6 o_notANumberq o_sizeq o_infiniteq o_negativeq o_cq o_qq) = some r → W p l e ({ frames := 1, cells := 0, slots := 0, locals := 21 } : Room) s m ([.ref o, .ref (g (11 + a1)), .long a2] : List Value).toArray below meth c H locs 0 0 (MQ below (gx_Qv D (ww_Bi_take g o o_size o_negative o_notANumber o_infinite o_c o_q) (ww_Bi_take g o r.2.1 r.2.2.2.1 r.1 r.2.2.1 r.2.2.2.2.1 r.2.2.2.2.2) s.heap.size) ([.ref o, .ref (g (11 + a1)), .long a2] : List Value).toArray s 0 0 (va_A (ww_Bi_take g o o_size o_negative o_notANumber o_infinite o_c o_q) s.heap.size)) (F0 m 112 ls [.ref o]) := by
    intro v1 v4 v6 o_notANumberq o_sizeq o_infiniteq o_negativeq o_cq o_qq ls H locs hl hS hP hD hf
    have hf : (f_Bi_take_113 v1 v4 v6 (0 : Int32) o_notANumberq o_sizeq o_infiniteq o_negativeq o_cq o_qq) = some r := hf
    refine lv_iconst (v := 0) S.1 S.2.1 d_Bi_take_112 (by decide) ?_
    exact c_113 v1 v4 v6 (0 : Int32) o_notANumberq o_sizeq o_infiniteq o_negativeq o_cq o_qq ls _ _ (lv_sub hl [0, 1, 2, 3] rfl) hS hP hD hf
  have c_84 : ∀ (v1 : Nat) (v2 : Int64) (v4 : Int64) (v6 : Int32) (t0 : Int32) (o_notANumberq : Int32) (o_sizeq : Nat) (o_infiniteq : Int32) (o_negativeq : Int32) (o_cq : Int64) (o_qq : Int32) (ls : Array Slot) (H : Heap) (locs : List Loc), lv_has ls 8 [(0, .ref o), (1, .ref (g (11 + v1))), (2, .long v2), (4, .long v4), (6, .int v6)] → va_S (va_A (ww_Bi_take g o o_size o_negative o_notANumber o_infinite o_c o_q) s.heap.size) s.heap H locs → va_P D vwC (ww_Bi_take g o o_sizeq o_negativeq o_notANumberq o_infiniteq o_cq o_qq) H → va_D (va_A (ww_Bi_take g o o_size o_negative o_notANumber o_infinite o_c o_q) s.heap.size) (ww_Bi_take g o o_sizeq o_negativeq o_notANumberq o_infiniteq o_cq o_qq) → (f_Bi_take_84 v1 v2 v4 v6 t0 o_notANumberq o_sizeq o_infiniteq o_negativeq o_cq o_qq) = some r → W p l e ({ frames := 1, cells := 0, slots := 0, locals := 21 } : Room) s m ([.ref o, .ref (g (11 + a1)), .long a2] : List Value).toArray below meth c H locs 0 0 (MQ below (gx_Qv D (ww_Bi_take g o o_size o_negative o_notANumber o_infinite o_c o_q) (ww_Bi_take g o r.2.1 r.2.2.2.1 r.1 r.2.2.1 r.2.2.2.2.1 r.2.2.2.2.2) s.heap.size) ([.ref o, .ref (g (11 + a1)), .long a2] : List Value).toArray s 0 0 (va_A (ww_Bi_take g o o_size o_negative o_notANumber o_infinite o_c o_q) s.heap.size)) (F0 m 84 ls [.int t0, .ref o]) := by
    intro v1 v2 v4 v6 t0 o_notANumberq o_sizeq o_infiniteq o_negativeq o_cq o_qq ls H locs hl hS hP hD hf
    have hf : (if gx_bo t0 = true then if o_notANumberq = 0 then (if v1 < 2 then if (((v2.toUInt64 >>> (((gx_sz 3).getD v1 0).toInt64.toUInt64 &&& Int64.toUInt64 63)).toInt64) &&& (1 : Int64)) = (0 : Int64) then (f_Bi_take_112 v1 v4 v6 o_notANumberq o_sizeq t0 o_negativeq o_cq o_qq) else (f_Bi_take_113 v1 v4 v6 (1 : Int32) o_notANumberq o_sizeq t0 o_negativeq o_cq o_qq) else none) else (f_Bi_take_112 v1 v4 v6 o_notANumberq o_sizeq t0 o_negativeq o_cq o_qq) else none) = some r := hf
    obtain ⟨hbo, hf⟩ := gx_chk hf
    refine gx_pf (v := .int t0) (ws2 := (ww_Bi_take g o o_sizeq o_negativeq o_notANumberq t0 o_cq o_qq)) S E hS hP hD 0 rfl rfl i_Bi k_Bi n_Bi 3 rfl wd_172 ⟨rfl, rfl, rfl, rfl⟩ (gx_bo_n hbo) (gx_bo_f hbo) rfl d_Bi_take_84 rfl (fun H locs hS hP hD => ?_)
    refine lv_aload_n S.1 S.2.1 d_Bi_take_87 rfl (lv_at hl 0 rfl) ?_
    refine lv_aload_n S.1 S.2.1 d_Bi_take_88 rfl (lv_at hl 0 rfl) ?_
    refine gx_gf (v := .int o_notANumberq) S E hP 0 rfl rfl i_Bi 2 rfl wd_169 ⟨rfl, rfl, rfl⟩ rfl d_Bi_take_89 ?_
    refine lv_if_ne (tgt := 112) S.1 S.2.1 d_Bi_take_92 (by decide) (fun h => ?_) (fun h => ?_)
    ·
      have hf := gx_ifn h hf
      exact c_112 v1 v4 v6 o_notANumberq o_sizeq t0 o_negativeq o_cq o_qq ls _ _ (lv_sub hl [0, 1, 3, 4] rfl) hS hP hD hf
    ·
      have hf := gx_ifp h hf
      refine lv_lload_n S.1 S.2.1 d_Bi_take_95 rfl (lv_at hl 2 rfl) ?_
      refine lv_aload_n S.1 S.2.1 d_Bi_take_96 rfl (lv_at hl 1 rfl) ?_
      obtain ⟨hsm, hf⟩ := gx_chk hf
      refine vk_getf (v := .int ((gx_sz 3).getD v1 0)) S.1 S.2.1 (gx_szF E hsm szm_3) hS S.2.2.2.1 (S.2.2.2.2 _ wd_1842) (fun _ h => h) d_Bi_take_97 ?_
      refine lv_lushr S.1 S.2.1 d_Bi_take_100 rfl ?_
      refine lv_lconst (v := 1) S.1 S.2.1 d_Bi_take_101 (by decide) ?_
      refine lv_land S.1 S.2.1 d_Bi_take_102 ?_
      refine lv_lconst (v := 0) S.1 S.2.1 d_Bi_take_103 (by decide) ?_
      refine W.lcmp S.1 S.2.1 d_Bi_take_104 ?_
      refine lv_if_eq (tgt := 112) S.1 S.2.1 d_Bi_take_105 (by decide) (fun h => ?_) (fun h => ?_)
      ·
        have h : (((v2.toUInt64 >>> (((gx_sz 3).getD v1 0).toInt64.toUInt64 &&& Int64.toUInt64 63)).toInt64) &&& (1 : Int64)) = (0 : Int64) := (lg_cmp_eq _ _).mp h
        have hf := gx_ifp h hf
        exact c_112 v1 v4 v6 o_notANumberq o_sizeq t0 o_negativeq o_cq o_qq ls _ _ (lv_sub hl [0, 1, 3, 4] rfl) hS hP hD hf
      ·
        have h : ¬ (((v2.toUInt64 >>> (((gx_sz 3).getD v1 0).toInt64.toUInt64 &&& Int64.toUInt64 63)).toInt64) &&& (1 : Int64)) = (0 : Int64) := fun q => h ((lg_cmp_eq _ _).mpr q)
        have hf := gx_ifn h hf
        refine lv_iconst (v := 1) S.1 S.2.1 d_Bi_take_108 (by decide) ?_
        refine lv_goto (tgt := 113) S.1 S.2.1 d_Bi_take_109 (by decide) ?_
        exact c_113 v1 v4 v6 (1 : Int32) o_notANumberq o_sizeq t0 o_negativeq o_cq o_qq ls _ _ (lv_sub hl [0, 1, 3, 4] rfl) hS hP hD hf
  have c_83 : ∀ (v1 : Nat) (v2 : Int64) (v4 : Int64) (v6 : Int32) (o_notANumberq : Int32) (o_sizeq : Nat) (o_infiniteq : Int32) (o_negativeq : Int32) (o_cq : Int64) (o_qq : Int32) (ls : Array Slot) (H : Heap) (locs : List Loc), lv_has ls 8 [(0, .ref o), (1, .ref (g (11 + v1))), (2, .long v2), (4, .long v4), (6, .int v6)] → va_S (va_A (ww_Bi_take g o o_size o_negative o_notANumber o_infinite o_c o_q) s.heap.size) s.heap H locs → va_P D vwC (ww_Bi_take g o o_sizeq o_negativeq o_notANumberq o_infiniteq o_cq o_qq) H → va_D (va_A (ww_Bi_take g o o_size o_negative o_notANumber o_infinite o_c o_q) s.heap.size) (ww_Bi_take g o o_sizeq o_negativeq o_notANumberq o_infiniteq o_cq o_qq) → (f_Bi_take_83 v1 v2 v4 v6 o_notANumberq o_sizeq o_infiniteq o_negativeq o_cq o_qq) = some r → W p l e ({ frames := 1, cells := 0, slots := 0, locals := 21 } : Room) s m ([.ref o, .ref (g (11 + a1)), .long a2] : List Value).toArray below meth c H locs 0 0 (MQ below (gx_Qv D (ww_Bi_take g o o_size o_negative o_notANumber o_infinite o_c o_q) (ww_Bi_take g o r.2.1 r.2.2.2.1 r.1 r.2.2.1 r.2.2.2.2.1 r.2.2.2.2.2) s.heap.size) ([.ref o, .ref (g (11 + a1)), .long a2] : List Value).toArray s 0 0 (va_A (ww_Bi_take g o o_size o_negative o_notANumber o_infinite o_c o_q) s.heap.size)) (F0 m 83 ls [.ref o]) := by
    intro v1 v2 v4 v6 o_notANumberq o_sizeq o_infiniteq o_negativeq o_cq o_qq ls H locs hl hS hP hD hf
    have hf : (f_Bi_take_84 v1 v2 v4 v6 (0 : Int32) o_notANumberq o_sizeq o_infiniteq o_negativeq o_cq o_qq) = some r := hf
    refine lv_iconst (v := 0) S.1 S.2.1 d_Bi_take_83 (by decide) ?_
    exact c_84 v1 v2 v4 v6 (0 : Int32) o_notANumberq o_sizeq o_infiniteq o_negativeq o_cq o_qq ls _ _ (lv_sub hl [0, 1, 2, 3, 4] rfl) hS hP hD hf
  have c_63 : ∀ (v1 : Nat) (v2 : Int64) (v4 : Int64) (v6 : Int32) (v7 : Int32) (t0 : Int32) (o_notANumberq : Int32) (o_sizeq : Nat) (o_infiniteq : Int32) (o_negativeq : Int32) (o_cq : Int64) (o_qq : Int32) (ls : Array Slot) (H : Heap) (locs : List Loc), lv_has ls 8 [(0, .ref o), (1, .ref (g (11 + v1))), (2, .long v2), (4, .long v4), (6, .int v6), (7, .int v7)] → va_S (va_A (ww_Bi_take g o o_size o_negative o_notANumber o_infinite o_c o_q) s.heap.size) s.heap H locs → va_P D vwC (ww_Bi_take g o o_sizeq o_negativeq o_notANumberq o_infiniteq o_cq o_qq) H → va_D (va_A (ww_Bi_take g o o_size o_negative o_notANumber o_infinite o_c o_q) s.heap.size) (ww_Bi_take g o o_sizeq o_negativeq o_notANumberq o_infiniteq o_cq o_qq) → (f_Bi_take_63 v1 v2 v4 v6 v7 t0 o_notANumberq o_sizeq o_infiniteq o_negativeq o_cq o_qq) = some r → W p l e ({ frames := 1, cells := 0, slots := 0, locals := 21 } : Room) s m ([.ref o, .ref (g (11 + a1)), .long a2] : List Value).toArray below meth c H locs 0 0 (MQ below (gx_Qv D (ww_Bi_take g o o_size o_negative o_notANumber o_infinite o_c o_q) (ww_Bi_take g o r.2.1 r.2.2.2.1 r.1 r.2.2.1 r.2.2.2.2.1 r.2.2.2.2.2) s.heap.size) ([.ref o, .ref (g (11 + a1)), .long a2] : List Value).toArray s 0 0 (va_A (ww_Bi_take g o o_size o_negative o_notANumber o_infinite o_c o_q) s.heap.size)) (F0 m 63 ls [.int t0, .ref o]) := by
    intro v1 v2 v4 v6 v7 t0 o_notANumberq o_sizeq o_infiniteq o_negativeq o_cq o_qq ls H locs hl hS hP hD hf
    have hf : (if gx_bo t0 = true then if v7 = 0 then (f_Bi_take_83 v1 v2 v4 v6 t0 o_sizeq o_infiniteq o_negativeq o_cq o_qq) else (if v4 = (0 : Int64) then (f_Bi_take_84 v1 v2 v4 v6 (1 : Int32) t0 o_sizeq o_infiniteq o_negativeq o_cq o_qq) else (f_Bi_take_83 v1 v2 v4 v6 t0 o_sizeq o_infiniteq o_negativeq o_cq o_qq)) else none) = some r := hf
    obtain ⟨hbo, hf⟩ := gx_chk hf
    refine gx_pf (v := .int t0) (ws2 := (ww_Bi_take g o o_sizeq o_negativeq t0 o_infiniteq o_cq o_qq)) S E hS hP hD 0 rfl rfl i_Bi k_Bi n_Bi 2 rfl wd_169 ⟨rfl, rfl, rfl, rfl⟩ (gx_bo_n hbo) (gx_bo_f hbo) rfl d_Bi_take_63 rfl (fun H locs hS hP hD => ?_)
    refine lv_aload_n S.1 S.2.1 d_Bi_take_66 rfl (lv_at hl 0 rfl) ?_
    refine lv_iload S.1 S.2.1 d_Bi_take_67 (lv_at hl 5 rfl) ?_
    refine lv_if_eq (tgt := 83) S.1 S.2.1 d_Bi_take_69 (by decide) (fun h => ?_) (fun h => ?_)
    ·
      have hf := gx_ifp h hf
      exact c_83 v1 v2 v4 v6 t0 o_sizeq o_infiniteq o_negativeq o_cq o_qq ls _ _ (lv_sub hl [0, 1, 2, 3, 4] rfl) hS hP hD hf
    ·
      have hf := gx_ifn h hf
      refine lv_lload S.1 S.2.1 d_Bi_take_72 (lv_at hl 3 rfl) ?_
      refine lv_lconst (v := 0) S.1 S.2.1 d_Bi_take_74 (by decide) ?_
      refine W.lcmp S.1 S.2.1 d_Bi_take_75 ?_
      refine lv_if_ne (tgt := 83) S.1 S.2.1 d_Bi_take_76 (by decide) (fun h => ?_) (fun h => ?_)
      ·
        have h : ¬ v4 = (0 : Int64) := fun q => h ((lg_cmp_eq _ _).mpr q)
        have hf := gx_ifn h hf
        exact c_83 v1 v2 v4 v6 t0 o_sizeq o_infiniteq o_negativeq o_cq o_qq ls _ _ (lv_sub hl [0, 1, 2, 3, 4] rfl) hS hP hD hf
      ·
        have h : v4 = (0 : Int64) := (lg_cmp_eq _ _).mp h
        have hf := gx_ifp h hf
        refine lv_iconst (v := 1) S.1 S.2.1 d_Bi_take_79 (by decide) ?_
        refine lv_goto (tgt := 84) S.1 S.2.1 d_Bi_take_80 (by decide) ?_
        exact c_84 v1 v2 v4 v6 (1 : Int32) t0 o_sizeq o_infiniteq o_negativeq o_cq o_qq ls _ _ (lv_sub hl [0, 1, 2, 3, 4] rfl) hS hP hD hf
  have c_62 : ∀ (v1 : Nat) (v2 : Int64) (v4 : Int64) (v6 : Int32) (v7 : Int32) (o_notANumberq : Int32) (o_sizeq : Nat) (o_infiniteq : Int32) (o_negativeq : Int32) (o_cq : Int64) (o_qq : Int32) (ls : Array Slot) (H : Heap) (locs : List Loc), lv_has ls 8 [(0, .ref o), (1, .ref (g (11 + v1))), (2, .long v2), (4, .long v4), (6, .int v6), (7, .int v7)] → va_S (va_A (ww_Bi_take g o o_size o_negative o_notANumber o_infinite o_c o_q) s.heap.size) s.heap H locs → va_P D vwC (ww_Bi_take g o o_sizeq o_negativeq o_notANumberq o_infiniteq o_cq o_qq) H → va_D (va_A (ww_Bi_take g o o_size o_negative o_notANumber o_infinite o_c o_q) s.heap.size) (ww_Bi_take g o o_sizeq o_negativeq o_notANumberq o_infiniteq o_cq o_qq) → (f_Bi_take_62 v1 v2 v4 v6 v7 o_notANumberq o_sizeq o_infiniteq o_negativeq o_cq o_qq) = some r → W p l e ({ frames := 1, cells := 0, slots := 0, locals := 21 } : Room) s m ([.ref o, .ref (g (11 + a1)), .long a2] : List Value).toArray below meth c H locs 0 0 (MQ below (gx_Qv D (ww_Bi_take g o o_size o_negative o_notANumber o_infinite o_c o_q) (ww_Bi_take g o r.2.1 r.2.2.2.1 r.1 r.2.2.1 r.2.2.2.2.1 r.2.2.2.2.2) s.heap.size) ([.ref o, .ref (g (11 + a1)), .long a2] : List Value).toArray s 0 0 (va_A (ww_Bi_take g o o_size o_negative o_notANumber o_infinite o_c o_q) s.heap.size)) (F0 m 62 ls [.ref o]) := by
    intro v1 v2 v4 v6 v7 o_notANumberq o_sizeq o_infiniteq o_negativeq o_cq o_qq ls H locs hl hS hP hD hf
    have hf : (f_Bi_take_63 v1 v2 v4 v6 v7 (0 : Int32) o_notANumberq o_sizeq o_infiniteq o_negativeq o_cq o_qq) = some r := hf
    refine lv_iconst (v := 0) S.1 S.2.1 d_Bi_take_62 (by decide) ?_
    exact c_63 v1 v2 v4 v6 v7 (0 : Int32) o_notANumberq o_sizeq o_infiniteq o_negativeq o_cq o_qq ls _ _ (lv_sub hl [0, 1, 2, 3, 4, 5] rfl) hS hP hD hf
  have c_43 : ∀ (v1 : Nat) (v2 : Int64) (v4 : Int64) (v6 : Int32) (t0 : Int32) (o_notANumberq : Int32) (o_sizeq : Nat) (o_infiniteq : Int32) (o_negativeq : Int32) (o_cq : Int64) (o_qq : Int32) (ls : Array Slot) (H : Heap) (locs : List Loc), lv_has ls 8 [(0, .ref o), (1, .ref (g (11 + v1))), (2, .long v2), (4, .long v4), (6, .int v6)] → va_S (va_A (ww_Bi_take g o o_size o_negative o_notANumber o_infinite o_c o_q) s.heap.size) s.heap H locs → va_P D vwC (ww_Bi_take g o o_sizeq o_negativeq o_notANumberq o_infiniteq o_cq o_qq) H → va_D (va_A (ww_Bi_take g o o_size o_negative o_notANumber o_infinite o_c o_q) s.heap.size) (ww_Bi_take g o o_sizeq o_negativeq o_notANumberq o_infiniteq o_cq o_qq) → (f_Bi_take_43 v1 v2 v4 v6 t0 o_notANumberq o_sizeq o_infiniteq o_negativeq o_cq o_qq) = some r → W p l e ({ frames := 1, cells := 0, slots := 0, locals := 21 } : Room) s m ([.ref o, .ref (g (11 + a1)), .long a2] : List Value).toArray below meth c H locs 0 0 (MQ below (gx_Qv D (ww_Bi_take g o o_size o_negative o_notANumber o_infinite o_c o_q) (ww_Bi_take g o r.2.1 r.2.2.2.1 r.1 r.2.2.1 r.2.2.2.2.1 r.2.2.2.2.2) s.heap.size) ([.ref o, .ref (g (11 + a1)), .long a2] : List Value).toArray s 0 0 (va_A (ww_Bi_take g o o_size o_negative o_notANumber o_infinite o_c o_q) s.heap.size)) (F0 m 43 ls [.int t0]) := by
    intro v1 v2 v4 v6 t0 o_notANumberq o_sizeq o_infiniteq o_negativeq o_cq o_qq ls H locs hl hS hP hD hf
    have hf : (if t0 = 0 then (f_Bi_take_62 v1 v2 v4 v6 t0 o_notANumberq o_sizeq o_infiniteq o_negativeq o_cq o_qq) else (if v4 = (0 : Int64) then (f_Bi_take_62 v1 v2 v4 v6 t0 o_notANumberq o_sizeq o_infiniteq o_negativeq o_cq o_qq) else (f_Bi_take_63 v1 v2 v4 v6 t0 (1 : Int32) o_notANumberq o_sizeq o_infiniteq o_negativeq o_cq o_qq))) = some r := hf
    refine lv_istore (lv' := [(7, .int t0), (0, .ref o), (1, .ref (g (11 + v1))), (2, .long v2), (4, .long v4), (6, .int v6)]) S.1 S.2.1 d_Bi_take_43 hl (by decide) rfl (fun ls hl => ?_)
    refine lv_aload_n S.1 S.2.1 d_Bi_take_45 rfl (lv_at hl 1 rfl) ?_
    refine lv_iload S.1 S.2.1 d_Bi_take_46 (lv_at hl 0 rfl) ?_
    refine lv_if_eq (tgt := 62) S.1 S.2.1 d_Bi_take_48 (by decide) (fun h => ?_) (fun h => ?_)
    ·
      have hf := gx_ifp h hf
      exact c_62 v1 v2 v4 v6 t0 o_notANumberq o_sizeq o_infiniteq o_negativeq o_cq o_qq ls _ _ (lv_sub hl [1, 2, 3, 4, 5, 0] rfl) hS hP hD hf
    ·
      have hf := gx_ifn h hf
      refine lv_lload S.1 S.2.1 d_Bi_take_51 (lv_at hl 4 rfl) ?_
      refine lv_lconst (v := 0) S.1 S.2.1 d_Bi_take_53 (by decide) ?_
      refine W.lcmp S.1 S.2.1 d_Bi_take_54 ?_
      refine lv_if_eq (tgt := 62) S.1 S.2.1 d_Bi_take_55 (by decide) (fun h => ?_) (fun h => ?_)
      ·
        have h : v4 = (0 : Int64) := (lg_cmp_eq _ _).mp h
        have hf := gx_ifp h hf
        exact c_62 v1 v2 v4 v6 t0 o_notANumberq o_sizeq o_infiniteq o_negativeq o_cq o_qq ls _ _ (lv_sub hl [1, 2, 3, 4, 5, 0] rfl) hS hP hD hf
      ·
        have h : ¬ v4 = (0 : Int64) := fun q => h ((lg_cmp_eq _ _).mpr q)
        have hf := gx_ifn h hf
        refine lv_iconst (v := 1) S.1 S.2.1 d_Bi_take_58 (by decide) ?_
        refine lv_goto (tgt := 63) S.1 S.2.1 d_Bi_take_59 (by decide) ?_
        exact c_63 v1 v2 v4 v6 t0 (1 : Int32) o_notANumberq o_sizeq o_infiniteq o_negativeq o_cq o_qq ls _ _ (lv_sub hl [1, 2, 3, 4, 5, 0] rfl) hS hP hD hf
  have hf : (if a1 < 2 then (f_Sz_fractionMask a1).bind fun u7 => if a1 < 2 then if a1 < 2 then (f_Sz_exponentMask a1).bind fun u23 => if a1 < 2 then (f_Sz_exponentMask a1).bind fun u32 => if ((((a2.toUInt64 >>> ((((gx_sz 0).getD a1 0) - (1 : Int32)).toInt64.toUInt64 &&& Int64.toUInt64 63)).toInt64).toInt32) &&& u23) = u32 then (f_Bi_take_43 a1 a2 (a2 &&& u7) ((((a2.toUInt64 >>> ((((gx_sz 0).getD a1 0) - (1 : Int32)).toInt64.toUInt64 &&& Int64.toUInt64 63)).toInt64).toInt32) &&& u23) (1 : Int32) o_notANumber a1 o_infinite o_negative o_c o_q) else (f_Bi_take_43 a1 a2 (a2 &&& u7) ((((a2.toUInt64 >>> ((((gx_sz 0).getD a1 0) - (1 : Int32)).toInt64.toUInt64 &&& Int64.toUInt64 63)).toInt64).toInt32) &&& u23) (0 : Int32) o_notANumber a1 o_infinite o_negative o_c o_q) else none else none else none else none) = some r := hf
  refine lv_aload_n S.1 S.2.1 d_Bi_take_0 rfl (lv_at hl 0 rfl) ?_
  refine lv_aload_n S.1 S.2.1 d_Bi_take_1 rfl (lv_at hl 1 rfl) ?_
  refine gx_pf (v := .ref (g (11 + a1))) (ws2 := (ww_Bi_take g o a1 o_negative o_notANumber o_infinite o_c o_q)) S E hS hP hD 0 rfl rfl i_Bi k_Bi n_Bi 0 rfl wd_165 ⟨rfl, rfl, rfl, rfl⟩ rfl rfl rfl d_Bi_take_2 rfl (fun H locs hS hP hD => ?_)
  refine lv_lload_n S.1 S.2.1 d_Bi_take_5 rfl (lv_at hl 2 rfl) ?_
  refine lv_aload_n S.1 S.2.1 d_Bi_take_6 rfl (lv_at hl 1 rfl) ?_
  obtain ⟨hk7z, hf⟩ := gx_chk hf
  obtain ⟨u7, hc7, hf⟩ := gx_bnd hf
  refine gx_Vl (ws2 := (ww_Bi_take g o a1 o_negative o_notANumber o_infinite o_c o_q)) S E hS hP hD (c_Sz_fractionMask l z D g a1 u7 hc7) cal_Sz_fractionMask wd_403 wd_404 wd_402 rfl [] rfl rfl rfl (gx_rcO (gx_szO E hk7z) hS) rfl hl.1 rfl d_Bi_take_7 ⟨Nat.zero_le _, Nat.zero_le _⟩ rfl (fun H locs hS hP hD => ?_)
  refine lv_land S.1 S.2.1 d_Bi_take_10 ?_
  refine lv_lstore (lv' := [(4, .long (a2 &&& u7)), (0, .ref o), (1, .ref (g (11 + a1))), (2, .long a2)]) S.1 S.2.1 d_Bi_take_11 hl (by decide) rfl (fun ls hl => ?_)
  refine lv_lload_n S.1 S.2.1 d_Bi_take_13 rfl (lv_at hl 3 rfl) ?_
  refine lv_aload_n S.1 S.2.1 d_Bi_take_14 rfl (lv_at hl 2 rfl) ?_
  obtain ⟨hsm, hf⟩ := gx_chk hf
  refine vk_getf (v := .int ((gx_sz 0).getD a1 0)) S.1 S.2.1 (gx_szF E hsm szm_0) hS S.2.2.2.1 (S.2.2.2.2 _ wd_1839) (fun _ h => h) d_Bi_take_15 ?_
  refine lv_iconst (v := 1) S.1 S.2.1 d_Bi_take_18 (by decide) ?_
  refine lv_isub S.1 S.2.1 d_Bi_take_19 ?_
  refine lv_lushr S.1 S.2.1 d_Bi_take_20 rfl ?_
  refine lv_l2i S.1 S.2.1 d_Bi_take_21 rfl ?_
  refine lv_aload_n S.1 S.2.1 d_Bi_take_22 rfl (lv_at hl 2 rfl) ?_
  obtain ⟨hk23z, hf⟩ := gx_chk hf
  obtain ⟨u23, hc23, hf⟩ := gx_bnd hf
  refine gx_Vi (ws2 := (ww_Bi_take g o a1 o_negative o_notANumber o_infinite o_c o_q)) S E hS hP hD (c_Sz_exponentMask l z D g a1 u23 hc23) cal_Sz_exponentMask wd_407 wd_408 wd_406 rfl [] rfl rfl rfl (gx_rcO (gx_szO E hk23z) hS) rfl hl.1 rfl d_Bi_take_23 ⟨Nat.zero_le _, Nat.zero_le _⟩ rfl (fun H locs hS hP hD => ?_)
  refine lv_iand S.1 S.2.1 d_Bi_take_26 ?_
  refine lv_istore (lv' := [(6, .int ((((a2.toUInt64 >>> ((((gx_sz 0).getD a1 0) - (1 : Int32)).toInt64.toUInt64 &&& Int64.toUInt64 63)).toInt64).toInt32) &&& u23)), (4, .long (a2 &&& u7)), (0, .ref o), (1, .ref (g (11 + a1))), (2, .long a2)]) S.1 S.2.1 d_Bi_take_27 hl (by decide) rfl (fun ls hl => ?_)
  refine lv_iload S.1 S.2.1 d_Bi_take_29 (lv_at hl 0 rfl) ?_
  refine lv_aload_n S.1 S.2.1 d_Bi_take_31 rfl (lv_at hl 3 rfl) ?_
  obtain ⟨hk32z, hf⟩ := gx_chk hf
  obtain ⟨u32, hc32, hf⟩ := gx_bnd hf
  refine gx_Vi (ws2 := (ww_Bi_take g o a1 o_negative o_notANumber o_infinite o_c o_q)) S E hS hP hD (c_Sz_exponentMask l z D g a1 u32 hc32) cal_Sz_exponentMask wd_407 wd_408 wd_406 rfl [] rfl rfl rfl (gx_rcO (gx_szO E hk32z) hS) rfl hl.1 rfl d_Bi_take_32 ⟨Nat.zero_le _, Nat.zero_le _⟩ rfl (fun H locs hS hP hD => ?_)
  refine lv_icmp_ne (tgt := 42) S.1 S.2.1 d_Bi_take_35 (by decide) (fun h => ?_) (fun h => ?_)
  ·
    have hf := gx_ifn h hf
    refine lv_iconst (v := 0) S.1 S.2.1 d_Bi_take_42 (by decide) ?_
    exact c_43 a1 a2 (a2 &&& u7) ((((a2.toUInt64 >>> ((((gx_sz 0).getD a1 0) - (1 : Int32)).toInt64.toUInt64 &&& Int64.toUInt64 63)).toInt64).toInt32) &&& u23) (0 : Int32) o_notANumber a1 o_infinite o_negative o_c o_q ls _ _ (lv_sub hl [2, 3, 4, 1, 0] rfl) hS hP hD hf
  ·
    have hf := gx_ifp h hf
    refine lv_iconst (v := 1) S.1 S.2.1 d_Bi_take_38 (by decide) ?_
    refine lv_goto (tgt := 43) S.1 S.2.1 d_Bi_take_39 (by decide) ?_
    exact c_43 a1 a2 (a2 &&& u7) ((((a2.toUInt64 >>> ((((gx_sz 0).getD a1 0) - (1 : Int32)).toInt64.toUInt64 &&& Int64.toUInt64 63)).toInt64).toInt32) &&& u23) (1 : Int32) o_notANumber a1 o_infinite o_negative o_c o_q ls _ _ (lv_sub hl [2, 3, 4, 1, 0] rfl) hS hP hD hf
theorem d_Bi_isUneven_0 : decode b_Bi_isUneven 0 = .ok (.aload_n 0, 1) := by decide +kernel
theorem d_Bi_isUneven_1 : decode b_Bi_isUneven 1 = .ok (.getfield 28, 3) := by decide +kernel
theorem d_Bi_isUneven_4 : decode b_Bi_isUneven 4 = .ok (.lconst 1, 1) := by decide +kernel
theorem d_Bi_isUneven_5 : decode b_Bi_isUneven 5 = .ok (.aload_n 0, 1) := by decide +kernel
theorem d_Bi_isUneven_6 : decode b_Bi_isUneven 6 = .ok (.getfield 13, 3) := by decide +kernel
theorem d_Bi_isUneven_9 : decode b_Bi_isUneven 9 = .ok (.getfield 40, 3) := by decide +kernel
theorem d_Bi_isUneven_12 : decode b_Bi_isUneven 12 = .ok (.iconst 1, 1) := by decide +kernel
theorem d_Bi_isUneven_13 : decode b_Bi_isUneven 13 = .ok (.isub, 1) := by decide +kernel
theorem d_Bi_isUneven_14 : decode b_Bi_isUneven 14 = .ok (.lshl, 1) := by decide +kernel
theorem d_Bi_isUneven_15 : decode b_Bi_isUneven 15 = .ok (.lcmp, 1) := by decide +kernel
theorem d_Bi_isUneven_16 : decode b_Bi_isUneven 16 = .ok (.ifCond .ne 21, 3) := by decide +kernel
theorem d_Bi_isUneven_19 : decode b_Bi_isUneven 19 = .ok (.aload_n 0, 1) := by decide +kernel
theorem d_Bi_isUneven_20 : decode b_Bi_isUneven 20 = .ok (.getfield 32, 3) := by decide +kernel
theorem d_Bi_isUneven_23 : decode b_Bi_isUneven 23 = .ok (.aload_n 0, 1) := by decide +kernel
theorem d_Bi_isUneven_24 : decode b_Bi_isUneven 24 = .ok (.getfield 13, 3) := by decide +kernel
theorem d_Bi_isUneven_27 : decode b_Bi_isUneven 27 = .ok (.getfield 50, 3) := by decide +kernel
theorem d_Bi_isUneven_30 : decode b_Bi_isUneven 30 = .ok (.if_icmp .le 7, 3) := by decide +kernel
theorem d_Bi_isUneven_33 : decode b_Bi_isUneven 33 = .ok (.iconst 1, 1) := by decide +kernel
theorem d_Bi_isUneven_34 : decode b_Bi_isUneven 34 = .ok (.goto 4, 3) := by decide +kernel
theorem d_Bi_isUneven_37 : decode b_Bi_isUneven 37 = .ok (.iconst 0, 1) := by decide +kernel
theorem d_Bi_isUneven_38 : decode b_Bi_isUneven 38 = .ok (.ireturn, 1) := by decide +kernel
theorem cal_Bi_isUneven : gx_cal y_Bi_isUneven b_Bi_isUneven 1 (some .boolean) 0 := ⟨wd_533, wd_6, by decide +kernel⟩
def ww_Bi_isUneven (g : Nat → ClassId) (o : Nat) (x_o_size : Nat) (x_o_negative : Int32) (x_o_notANumber : Int32) (x_o_infinite : Int32) (x_o_c : Int64) (x_o_q : Int32) : va_W := [(o, .inr (2, [.ref (g (11 + x_o_size)), .int x_o_negative, .int x_o_notANumber, .int x_o_infinite, .long x_o_c, .int x_o_q]))]
def f_Bi_isUneven_37 (o_c : Int64) (o_size : Nat) (o_q : Int32) : Option (Int32) := some (0 : Int32)
def f_Bi_isUneven (o_c : Int64) (o_size : Nat) (o_q : Int32) : Option (Int32) := if o_size < 2 then if o_c = ((1 : Int64) <<< ((((gx_sz 0).getD o_size 0) - (1 : Int32)).toInt64 &&& 63)) then (if o_size < 2 then if o_q ≤ ((gx_sz 1).getD o_size 0) then (f_Bi_isUneven_37 o_c o_size o_q) else (some (1 : Int32)) else none) else (f_Bi_isUneven_37 o_c o_size o_q) else none
set_option maxHeartbeats 4000000 in
set_option maxRecDepth 100000 in
theorem c_Bi_isUneven (l : Launch) (z : State) (D : va_G) (g : Nat → ClassId) (o : Nat) (o_size : Nat) (o_negative : Int32) (o_notANumber : Int32) (o_infinite : Int32) (o_c : Int64) (o_q : Int32) (r : Int32) (hf : f_Bi_isUneven o_c o_size o_q = some r) : gx_Mi l z D g y_Bi_isUneven b_Bi_isUneven 1 .boolean ({ frames := 0, cells := 0, slots := 0, locals := 0 } : Room) [.ref o] (ww_Bi_isUneven g o o_size o_negative o_notANumber o_infinite o_c o_q) (ww_Bi_isUneven g o o_size o_negative o_notANumber o_infinite o_c o_q) r := by
  refine gx_go (by decide +kernel) rfl ?_
  intro p e s m below meth c ls S hr hlk hnm E hP hD hl
  have hS : va_S (va_A (ww_Bi_isUneven g o o_size o_negative o_notANumber o_infinite o_c o_q) s.heap.size) s.heap s.heap [] := va_S.rf
  have hl : lv_has ls 1 [(0, .ref o)] := hl
  have c_37 : ∀  (ls : Array Slot) (H : Heap) (locs : List Loc), lv_has ls 1 [] → va_S (va_A (ww_Bi_isUneven g o o_size o_negative o_notANumber o_infinite o_c o_q) s.heap.size) s.heap H locs → va_P D vwC (ww_Bi_isUneven g o o_size o_negative o_notANumber o_infinite o_c o_q) H → va_D (va_A (ww_Bi_isUneven g o o_size o_negative o_notANumber o_infinite o_c o_q) s.heap.size) (ww_Bi_isUneven g o o_size o_negative o_notANumber o_infinite o_c o_q) → (f_Bi_isUneven_37 o_c o_size o_q) = some r → W p l e ({ frames := 0, cells := 0, slots := 0, locals := 0 } : Room) s m ([.ref o] : List Value).toArray below meth c H locs 0 0 (MQ below (gx_Qi D (ww_Bi_isUneven g o o_size o_negative o_notANumber o_infinite o_c o_q) (ww_Bi_isUneven g o o_size o_negative o_notANumber o_infinite o_c o_q) r s.heap.size) ([.ref o] : List Value).toArray s 0 0 (va_A (ww_Bi_isUneven g o o_size o_negative o_notANumber o_infinite o_c o_q) s.heap.size)) (F0 m 37 ls []) := by
    intro  ls H locs hl hS hP hD hf
    have hf : (some (0 : Int32)) = some r := hf
    refine lv_iconst (v := 0) S.1 S.2.1 d_Bi_isUneven_37 (by decide) ?_
    obtain rfl := Option.some.inj hf
    exact gx_rz S hr gx_n0 hlk hS hP hD d_Bi_isUneven_38
  have hf : (if o_size < 2 then if o_c = ((1 : Int64) <<< ((((gx_sz 0).getD o_size 0) - (1 : Int32)).toInt64 &&& 63)) then (if o_size < 2 then if o_q ≤ ((gx_sz 1).getD o_size 0) then (f_Bi_isUneven_37 o_c o_size o_q) else (some (1 : Int32)) else none) else (f_Bi_isUneven_37 o_c o_size o_q) else none) = some r := hf
  refine lv_aload_n S.1 S.2.1 d_Bi_isUneven_0 rfl (lv_at hl 0 rfl) ?_
  refine gx_gf (v := .long o_c) S E hP 0 rfl rfl i_Bi 4 rfl wd_175 ⟨rfl, rfl, rfl⟩ rfl d_Bi_isUneven_1 ?_
  refine lv_lconst (v := 1) S.1 S.2.1 d_Bi_isUneven_4 (by decide) ?_
  refine lv_aload_n S.1 S.2.1 d_Bi_isUneven_5 rfl (lv_at hl 0 rfl) ?_
  refine gx_gf (v := .ref (g (11 + o_size))) S E hP 0 rfl rfl i_Bi 0 rfl wd_165 ⟨rfl, rfl, rfl⟩ rfl d_Bi_isUneven_6 ?_
  obtain ⟨hsm, hf⟩ := gx_chk hf
  refine vk_getf (v := .int ((gx_sz 0).getD o_size 0)) S.1 S.2.1 (gx_szF E hsm szm_0) hS S.2.2.2.1 (S.2.2.2.2 _ wd_1839) (fun _ h => h) d_Bi_isUneven_9 ?_
  refine lv_iconst (v := 1) S.1 S.2.1 d_Bi_isUneven_12 (by decide) ?_
  refine lv_isub S.1 S.2.1 d_Bi_isUneven_13 ?_
  refine lv_lshl S.1 S.2.1 d_Bi_isUneven_14 rfl ?_
  refine W.lcmp S.1 S.2.1 d_Bi_isUneven_15 ?_
  refine lv_if_ne (tgt := 37) S.1 S.2.1 d_Bi_isUneven_16 (by decide) (fun h => ?_) (fun h => ?_)
  ·
    have h : ¬ o_c = ((1 : Int64) <<< ((((gx_sz 0).getD o_size 0) - (1 : Int32)).toInt64 &&& 63)) := fun q => h ((lg_cmp_eq _ _).mpr q)
    have hf := gx_ifn h hf
    exact c_37  ls _ _ (lv_sub hl [] rfl) hS hP hD hf
  ·
    have h : o_c = ((1 : Int64) <<< ((((gx_sz 0).getD o_size 0) - (1 : Int32)).toInt64 &&& 63)) := (lg_cmp_eq _ _).mp h
    have hf := gx_ifp h hf
    refine lv_aload_n S.1 S.2.1 d_Bi_isUneven_19 rfl (lv_at hl 0 rfl) ?_
    refine gx_gf (v := .int o_q) S E hP 0 rfl rfl i_Bi 5 rfl wd_178 ⟨rfl, rfl, rfl⟩ rfl d_Bi_isUneven_20 ?_
    refine lv_aload_n S.1 S.2.1 d_Bi_isUneven_23 rfl (lv_at hl 0 rfl) ?_
    refine gx_gf (v := .ref (g (11 + o_size))) S E hP 0 rfl rfl i_Bi 0 rfl wd_165 ⟨rfl, rfl, rfl⟩ rfl d_Bi_isUneven_24 ?_
    obtain ⟨hsm, hf⟩ := gx_chk hf
    refine vk_getf (v := .int ((gx_sz 1).getD o_size 0)) S.1 S.2.1 (gx_szF E hsm szm_1) hS S.2.2.2.1 (S.2.2.2.2 _ wd_1843) (fun _ h => h) d_Bi_isUneven_27 ?_
    refine lv_icmp_le (tgt := 37) S.1 S.2.1 d_Bi_isUneven_30 (by decide) (fun h => ?_) (fun h => ?_)
    ·
      have hf := gx_ifp h hf
      exact c_37  ls _ _ (lv_sub hl [] rfl) hS hP hD hf
    ·
      have hf := gx_ifn h hf
      refine lv_iconst (v := 1) S.1 S.2.1 d_Bi_isUneven_33 (by decide) ?_
      refine lv_goto (tgt := 38) S.1 S.2.1 d_Bi_isUneven_34 (by decide) ?_
      obtain rfl := Option.some.inj hf
      exact gx_rz S hr gx_n1 hlk hS hP hD d_Bi_isUneven_38
