theorem d_JStr_coder_0 : decode b_JStr_coder 0 = .ok (.getstatic 38, 3) := by decide +kernel
theorem d_JStr_coder_3 : decode b_JStr_coder 3 = .ok (.ifCond .eq 10, 3) := by decide +kernel
theorem d_JStr_coder_6 : decode b_JStr_coder 6 = .ok (.aload_n 0, 1) := by decide +kernel
theorem d_JStr_coder_7 : decode b_JStr_coder 7 = .ok (.getfield 15, 3) := by decide +kernel
theorem d_JStr_coder_10 : decode b_JStr_coder 10 = .ok (.goto 4, 3) := by decide +kernel
theorem d_JStr_coder_13 : decode b_JStr_coder 13 = .ok (.iconst 1, 1) := by decide +kernel
theorem d_JStr_coder_14 : decode b_JStr_coder 14 = .ok (.ireturn, 1) := by decide +kernel
theorem cal_JStr_coder : gx_cal y_JStr_coder b_JStr_coder 1 (some .byte) 0 := ⟨wd_437, wd_21, by decide +kernel⟩
def ww_JStr_coder (g : Nat → ClassId)  : va_W := []
def f_JStr_coder (o : Nat) : Option (Int32) := if (1 : Int32) = 0 then (some (1 : Int32)) else (if o < 74 then some (0 : Int32) else none)
set_option maxHeartbeats 4000000 in
set_option maxRecDepth 100000 in
theorem c_JStr_coder (l : Launch) (z : State) (D : va_G) (g : Nat → ClassId) (o : Nat) (r : Int32) (hf : f_JStr_coder o = some r) : gx_Mi l z D g y_JStr_coder b_JStr_coder 1 .byte ({ frames := 0, cells := 0, slots := 0, locals := 0 } : Room) [.ref (g (100 + o))] (ww_JStr_coder g ) (ww_JStr_coder g ) r := by
  refine gx_go (by decide +kernel) rfl ?_
  intro p e s m below meth c ls S hr hlk hnm E hP hD hl
  have hS : va_S (va_A (ww_JStr_coder g ) s.heap.size) s.heap s.heap [] := va_S.rf
  have hl : lv_has ls 1 [(0, .ref (g (100 + o)))] := hl
  have hf : (if (1 : Int32) = 0 then (some (1 : Int32)) else (if o < 74 then some (0 : Int32) else none)) = some r := hf
  refine va_gets S.1 S.2.1 (gx_cmp E) hS S.2.2.2.1 (S.2.2.2.2 _ wd_438) (fun _ h => h) d_JStr_coder_0 ?_
  refine lv_if_eq (tgt := 13) S.1 S.2.1 d_JStr_coder_3 (by decide) (fun h => ?_) (fun h => ?_)
  ·
    have hf := gx_ifp h hf
    refine lv_iconst (v := 1) S.1 S.2.1 d_JStr_coder_13 (by decide) ?_
    obtain rfl := Option.some.inj hf
    exact gx_rz S hr (by decide +kernel) hlk hS hP hD d_JStr_coder_14
  ·
    have hf := gx_ifn h hf
    refine lv_aload_n S.1 S.2.1 d_JStr_coder_6 rfl (lv_at hl 0 rfl) ?_
    obtain ⟨hsm, hf⟩ := gx_chk hf
    refine vk_getf (v := .int (0 : Int32)) S.1 S.2.1 (gx_stC E hsm) hS S.2.2.2.1 (S.2.2.2.2 _ wd_1845) (fun _ h => h) d_JStr_coder_7 ?_
    refine lv_goto (tgt := 14) S.1 S.2.1 d_JStr_coder_10 (by decide) ?_
    obtain rfl := Option.some.inj hf
    exact gx_rz S hr (by decide +kernel) hlk hS hP hD d_JStr_coder_14
theorem d_JStr_length_0 : decode b_JStr_length 0 = .ok (.aload_n 0, 1) := by decide +kernel
theorem d_JStr_length_1 : decode b_JStr_length 1 = .ok (.getfield 9, 3) := by decide +kernel
theorem d_JStr_length_4 : decode b_JStr_length 4 = .ok (.arraylength, 1) := by decide +kernel
theorem d_JStr_length_5 : decode b_JStr_length 5 = .ok (.aload_n 0, 1) := by decide +kernel
theorem d_JStr_length_6 : decode b_JStr_length 6 = .ok (.invokevirtual 335, 3) := by decide +kernel
theorem d_JStr_length_9 : decode b_JStr_length 9 = .ok (.ishr, 1) := by decide +kernel
theorem d_JStr_length_10 : decode b_JStr_length 10 = .ok (.ireturn, 1) := by decide +kernel
theorem cal_JStr_length : gx_cal y_JStr_length b_JStr_length 1 (some .int) 0 := ⟨wd_433, wd_21, by decide +kernel⟩
def ww_JStr_length (g : Nat → ClassId)  : va_W := []
def f_JStr_length (o : Nat) : Option (Int32) := if o < 74 then if o < 74 then if o < 74 then (f_JStr_coder o).bind fun u6 => some ((Int32.ofNat (gl_len.getD o 0)) >>> (u6 &&& 31)) else none else none else none
set_option maxHeartbeats 4000000 in
set_option maxRecDepth 100000 in
theorem c_JStr_length (l : Launch) (z : State) (D : va_G) (g : Nat → ClassId) (o : Nat) (r : Int32) (hf : f_JStr_length o = some r) : gx_Mi l z D g y_JStr_length b_JStr_length 1 .int ({ frames := 1, cells := 0, slots := 0, locals := 20 } : Room) [.ref (g (100 + o))] (ww_JStr_length g ) (ww_JStr_length g ) r := by
  refine gx_go (by decide +kernel) rfl ?_
  intro p e s m below meth c ls S hr hlk hnm E hP hD hl
  have hS : va_S (va_A (ww_JStr_length g ) s.heap.size) s.heap s.heap [] := va_S.rf
  have hl : lv_has ls 1 [(0, .ref (g (100 + o)))] := hl
  have hf : (if o < 74 then if o < 74 then if o < 74 then (f_JStr_coder o).bind fun u6 => some ((Int32.ofNat (gl_len.getD o 0)) >>> (u6 &&& 31)) else none else none else none) = some r := hf
  refine lv_aload_n S.1 S.2.1 d_JStr_length_0 rfl (lv_at hl 0 rfl) ?_
  obtain ⟨hsm, hf⟩ := gx_chk hf
  refine vk_getf (v := .ref (g (300 + o))) S.1 S.2.1 (gx_stV E hsm) hS S.2.2.2.1 (S.2.2.2.2 _ wd_1844) (fun _ h => h) d_JStr_length_1 ?_
  obtain ⟨hsm, hf⟩ := gx_chk hf
  refine va_tlen (v := Int32.ofNat (gl_len.getD o 0)) S.1 S.2.1 (gx_stT E hsm) hS rfl d_JStr_length_4 ?_
  refine lv_aload_n S.1 S.2.1 d_JStr_length_5 rfl (lv_at hl 0 rfl) ?_
  obtain ⟨hk6z, hf⟩ := gx_chk hf
  obtain ⟨u6, hc6, hf⟩ := gx_bnd hf
  refine gx_Vi (ws2 := (ww_JStr_length g )) S E hS hP hD (c_JStr_coder l z D g o u6 hc6) cal_JStr_coder wd_435 wd_436 wd_434 rfl [] rfl rfl rfl (gx_rcO (gx_stO E hk6z) hS) rfl hl.1 rfl d_JStr_length_6 ⟨Nat.zero_le _, Nat.zero_le _⟩ rfl (fun H locs hS hP hD => ?_)
  refine lv_ishr S.1 S.2.1 d_JStr_length_9 ?_
  obtain rfl := Option.some.inj hf
  exact gx_ri S hr hlk hS hP hD d_JStr_length_10
theorem d_JStr_isLatin1_0 : decode b_JStr_isLatin1 0 = .ok (.getstatic 38, 3) := by decide +kernel
theorem d_JStr_isLatin1_3 : decode b_JStr_isLatin1 3 = .ok (.ifCond .eq 14, 3) := by decide +kernel
theorem d_JStr_isLatin1_6 : decode b_JStr_isLatin1 6 = .ok (.aload_n 0, 1) := by decide +kernel
theorem d_JStr_isLatin1_7 : decode b_JStr_isLatin1 7 = .ok (.getfield 15, 3) := by decide +kernel
theorem d_JStr_isLatin1_10 : decode b_JStr_isLatin1 10 = .ok (.ifCond .ne 7, 3) := by decide +kernel
theorem d_JStr_isLatin1_13 : decode b_JStr_isLatin1 13 = .ok (.iconst 1, 1) := by decide +kernel
theorem d_JStr_isLatin1_14 : decode b_JStr_isLatin1 14 = .ok (.goto 4, 3) := by decide +kernel
theorem d_JStr_isLatin1_17 : decode b_JStr_isLatin1 17 = .ok (.iconst 0, 1) := by decide +kernel
theorem d_JStr_isLatin1_18 : decode b_JStr_isLatin1 18 = .ok (.ireturn, 1) := by decide +kernel
theorem cal_JStr_isLatin1 : gx_cal y_JStr_isLatin1 b_JStr_isLatin1 1 (some .boolean) 0 := ⟨wd_447, wd_21, by decide +kernel⟩
def ww_JStr_isLatin1 (g : Nat → ClassId)  : va_W := []
def f_JStr_isLatin1_17  : Option (Int32) := some (0 : Int32)
def f_JStr_isLatin1 (o : Nat) : Option (Int32) := if (1 : Int32) = 0 then (f_JStr_isLatin1_17 ) else (if o < 74 then if (0 : Int32) = 0 then (some (1 : Int32)) else (f_JStr_isLatin1_17 ) else none)
set_option maxHeartbeats 4000000 in
set_option maxRecDepth 100000 in
theorem c_JStr_isLatin1 (l : Launch) (z : State) (D : va_G) (g : Nat → ClassId) (o : Nat) (r : Int32) (hf : f_JStr_isLatin1 o = some r) : gx_Mi l z D g y_JStr_isLatin1 b_JStr_isLatin1 1 .boolean ({ frames := 0, cells := 0, slots := 0, locals := 0 } : Room) [.ref (g (100 + o))] (ww_JStr_isLatin1 g ) (ww_JStr_isLatin1 g ) r := by
  refine gx_go (by decide +kernel) rfl ?_
  intro p e s m below meth c ls S hr hlk hnm E hP hD hl
  have hS : va_S (va_A (ww_JStr_isLatin1 g ) s.heap.size) s.heap s.heap [] := va_S.rf
  have hl : lv_has ls 1 [(0, .ref (g (100 + o)))] := hl
  have c_17 : ∀  (ls : Array Slot) (H : Heap) (locs : List Loc), lv_has ls 1 [] → va_S (va_A (ww_JStr_isLatin1 g ) s.heap.size) s.heap H locs → va_P D vwC (ww_JStr_isLatin1 g ) H → va_D (va_A (ww_JStr_isLatin1 g ) s.heap.size) (ww_JStr_isLatin1 g ) → (f_JStr_isLatin1_17 ) = some r → W p l e ({ frames := 0, cells := 0, slots := 0, locals := 0 } : Room) s m ([.ref (g (100 + o))] : List Value).toArray below meth c H locs 0 0 (MQ below (gx_Qi D (ww_JStr_isLatin1 g ) (ww_JStr_isLatin1 g ) r s.heap.size) ([.ref (g (100 + o))] : List Value).toArray s 0 0 (va_A (ww_JStr_isLatin1 g ) s.heap.size)) (F0 m 17 ls []) := by
    intro  ls H locs hl hS hP hD hf
    have hf : (some (0 : Int32)) = some r := hf
    refine lv_iconst (v := 0) S.1 S.2.1 d_JStr_isLatin1_17 (by decide) ?_
    obtain rfl := Option.some.inj hf
    exact gx_rz S hr gx_n0 hlk hS hP hD d_JStr_isLatin1_18
  have hf : (if (1 : Int32) = 0 then (f_JStr_isLatin1_17 ) else (if o < 74 then if (0 : Int32) = 0 then (some (1 : Int32)) else (f_JStr_isLatin1_17 ) else none)) = some r := hf
  refine va_gets S.1 S.2.1 (gx_cmp E) hS S.2.2.2.1 (S.2.2.2.2 _ wd_438) (fun _ h => h) d_JStr_isLatin1_0 ?_
  refine lv_if_eq (tgt := 17) S.1 S.2.1 d_JStr_isLatin1_3 (by decide) (fun h => ?_) (fun h => ?_)
  ·
    have hf := gx_ifp h hf
    exact c_17  ls _ _ (lv_sub hl [] rfl) hS hP hD hf
  ·
    have hf := gx_ifn h hf
    refine lv_aload_n S.1 S.2.1 d_JStr_isLatin1_6 rfl (lv_at hl 0 rfl) ?_
    obtain ⟨hsm, hf⟩ := gx_chk hf
    refine vk_getf (v := .int (0 : Int32)) S.1 S.2.1 (gx_stC E hsm) hS S.2.2.2.1 (S.2.2.2.2 _ wd_1845) (fun _ h => h) d_JStr_isLatin1_7 ?_
    refine lv_if_ne (tgt := 17) S.1 S.2.1 d_JStr_isLatin1_10 (by decide) (fun h => ?_) (fun h => ?_)
    ·
      have hf := gx_ifn h hf
      exact c_17  ls _ _ (lv_sub hl [] rfl) hS hP hD hf
    ·
      have hf := gx_ifp h hf
      refine lv_iconst (v := 1) S.1 S.2.1 d_JStr_isLatin1_13 (by decide) ?_
      refine lv_goto (tgt := 18) S.1 S.2.1 d_JStr_isLatin1_14 (by decide) ?_
      obtain rfl := Option.some.inj hf
      exact gx_rz S hr gx_n1 hlk hS hP hD d_JStr_isLatin1_18
theorem d_JPre_checkIndex_0 : decode b_JPre_checkIndex 0 = .ok (.iload_n 0, 1) := by decide +kernel
theorem d_JPre_checkIndex_1 : decode b_JPre_checkIndex 1 = .ok (.ifCond .lt 8, 3) := by decide +kernel
theorem d_JPre_checkIndex_4 : decode b_JPre_checkIndex 4 = .ok (.iload_n 0, 1) := by decide +kernel
theorem d_JPre_checkIndex_5 : decode b_JPre_checkIndex 5 = .ok (.iload_n 1, 1) := by decide +kernel
theorem d_JPre_checkIndex_6 : decode b_JPre_checkIndex 6 = .ok (.if_icmp .lt 10, 3) := by decide +kernel
theorem d_JPre_checkIndex_9 : decode b_JPre_checkIndex 9 = .ok (.aload_n 2, 1) := by decide +kernel
theorem d_JPre_checkIndex_10 : decode b_JPre_checkIndex 10 = .ok (.iload_n 0, 1) := by decide +kernel
theorem d_JPre_checkIndex_11 : decode b_JPre_checkIndex 11 = .ok (.iload_n 1, 1) := by decide +kernel
theorem d_JPre_checkIndex_12 : decode b_JPre_checkIndex 12 = .ok (.invokestatic 95, 3) := by decide +kernel
theorem d_JPre_checkIndex_15 : decode b_JPre_checkIndex 15 = .ok (.athrow, 1) := by decide +kernel
theorem d_JPre_checkIndex_16 : decode b_JPre_checkIndex 16 = .ok (.iload_n 0, 1) := by decide +kernel
theorem d_JPre_checkIndex_17 : decode b_JPre_checkIndex 17 = .ok (.ireturn, 1) := by decide +kernel
theorem cal_JPre_checkIndex : gx_cal y_JPre_checkIndex b_JPre_checkIndex 3 (some .int) 3 := ⟨wd_458, wd_23, by decide +kernel⟩
def ww_JPre_checkIndex (g : Nat → ClassId)  : va_W := []
def f_JPre_checkIndex (a1 : Int32) (a2 : Int32) : Option (Int32) := if a1 < 0 then (none) else (if a1 < a2 then (some a1) else (none))
set_option maxHeartbeats 4000000 in
set_option maxRecDepth 100000 in
theorem c_JPre_checkIndex (l : Launch) (z : State) (D : va_G) (g : Nat → ClassId) (a3 : Nat) (a1 : Int32) (a2 : Int32) (r : Int32) (hf : f_JPre_checkIndex a1 a2 = some r) : gx_Mi l z D g y_JPre_checkIndex b_JPre_checkIndex 3 .int ({ frames := 0, cells := 0, slots := 0, locals := 0 } : Room) [.int a1, .int a2, .ref a3] (ww_JPre_checkIndex g ) (ww_JPre_checkIndex g ) r := by
  refine gx_go (by decide +kernel) rfl ?_
  intro p e s m below meth c ls S hr hlk hnm E hP hD hl
  have hS : va_S (va_A (ww_JPre_checkIndex g ) s.heap.size) s.heap s.heap [] := va_S.rf
  have hl : lv_has ls 3 [(0, .int a1), (1, .int a2), (2, .ref a3)] := hl
  have hf : (if a1 < 0 then (none) else (if a1 < a2 then (some a1) else (none))) = some r := hf
  refine lv_iload_n S.1 S.2.1 d_JPre_checkIndex_0 rfl (lv_at hl 0 rfl) ?_
  refine lv_if_lt (tgt := 9) S.1 S.2.1 d_JPre_checkIndex_1 (by decide) (fun h => ?_) (fun h => ?_)
  ·
    have hf := gx_ifp h hf
    cases hf
  ·
    have hf := gx_ifn h hf
    refine lv_iload_n S.1 S.2.1 d_JPre_checkIndex_4 rfl (lv_at hl 0 rfl) ?_
    refine lv_iload_n S.1 S.2.1 d_JPre_checkIndex_5 rfl (lv_at hl 1 rfl) ?_
    refine lv_icmp_lt (tgt := 16) S.1 S.2.1 d_JPre_checkIndex_6 (by decide) (fun h => ?_) (fun h => ?_)
    ·
      have hf := gx_ifp h hf
      refine lv_iload_n S.1 S.2.1 d_JPre_checkIndex_16 rfl (lv_at hl 0 rfl) ?_
      obtain rfl := Option.some.inj hf
      exact gx_ri S hr hlk hS hP hD d_JPre_checkIndex_17
    ·
      have hf := gx_ifn h hf
      cases hf
set_option maxHeartbeats 4000000 in
set_option maxRecDepth 100000 in
theorem c_JPre_checkIndex_n (l : Launch) (z : State) (D : va_G) (g : Nat → ClassId) (a1 : Int32) (a2 : Int32) (r : Int32) (hf : f_JPre_checkIndex a1 a2 = some r) : gx_Mi l z D g y_JPre_checkIndex b_JPre_checkIndex 3 .int ({ frames := 0, cells := 0, slots := 0, locals := 0 } : Room) [.int a1, .int a2, .null] (ww_JPre_checkIndex g ) (ww_JPre_checkIndex g ) r := by
  refine gx_go (by decide +kernel) rfl ?_
  intro p e s m below meth c ls S hr hlk hnm E hP hD hl
  have hS : va_S (va_A (ww_JPre_checkIndex g ) s.heap.size) s.heap s.heap [] := va_S.rf
  have hl : lv_has ls 3 [(0, .int a1), (1, .int a2), (2, .null)] := hl
  have hf : (if a1 < 0 then (none) else (if a1 < a2 then (some a1) else (none))) = some r := hf
  refine lv_iload_n S.1 S.2.1 d_JPre_checkIndex_0 rfl (lv_at hl 0 rfl) ?_
  refine lv_if_lt (tgt := 9) S.1 S.2.1 d_JPre_checkIndex_1 (by decide) (fun h => ?_) (fun h => ?_)
  ·
    have hf := gx_ifp h hf
    cases hf
  ·
    have hf := gx_ifn h hf
    refine lv_iload_n S.1 S.2.1 d_JPre_checkIndex_4 rfl (lv_at hl 0 rfl) ?_
    refine lv_iload_n S.1 S.2.1 d_JPre_checkIndex_5 rfl (lv_at hl 1 rfl) ?_
    refine lv_icmp_lt (tgt := 16) S.1 S.2.1 d_JPre_checkIndex_6 (by decide) (fun h => ?_) (fun h => ?_)
    ·
      have hf := gx_ifp h hf
      refine lv_iload_n S.1 S.2.1 d_JPre_checkIndex_16 rfl (lv_at hl 0 rfl) ?_
      obtain rfl := Option.some.inj hf
      exact gx_ri S hr hlk hS hP hD d_JPre_checkIndex_17
    ·
      have hf := gx_ifn h hf
      cases hf
theorem d_JStr_checkIndex_0 : decode b_JStr_checkIndex 0 = .ok (.iload_n 0, 1) := by decide +kernel
theorem d_JStr_checkIndex_1 : decode b_JStr_checkIndex 1 = .ok (.iload_n 1, 1) := by decide +kernel
theorem d_JStr_checkIndex_2 : decode b_JStr_checkIndex 2 = .ok (.getstatic 1053, 3) := by decide +kernel
theorem d_JStr_checkIndex_5 : decode b_JStr_checkIndex 5 = .ok (.invokestatic 1059, 3) := by decide +kernel
theorem d_JStr_checkIndex_8 : decode b_JStr_checkIndex 8 = .ok (.pop, 1) := by decide +kernel
theorem d_JStr_checkIndex_9 : decode b_JStr_checkIndex 9 = .ok (.return_, 1) := by decide +kernel
theorem cal_JStr_checkIndex : gx_cal y_JStr_checkIndex b_JStr_checkIndex 2 none 2 := ⟨wd_453, wd_21, by decide +kernel⟩
def ww_JStr_checkIndex (g : Nat → ClassId)  : va_W := []
def f_JStr_checkIndex (a1 : Int32) (a2 : Int32) : Option (Unit) := (f_JPre_checkIndex a1 a2).bind fun u5 => some ()
set_option maxHeartbeats 4000000 in
set_option maxRecDepth 100000 in
theorem c_JStr_checkIndex (l : Launch) (z : State) (D : va_G) (g : Nat → ClassId) (a1 : Int32) (a2 : Int32) (r : Unit) (hf : f_JStr_checkIndex a1 a2 = some r) : gx_Mv l z D g y_JStr_checkIndex b_JStr_checkIndex 2 ({ frames := 1, cells := 0, slots := 0, locals := 22 } : Room) [.int a1, .int a2] (ww_JStr_checkIndex g ) (ww_JStr_checkIndex g ) := by
  refine gx_go (by decide +kernel) rfl ?_
  intro p e s m below meth c ls S hr hlk hnm E hP hD hl
  have hS : va_S (va_A (ww_JStr_checkIndex g ) s.heap.size) s.heap s.heap [] := va_S.rf
  have hl : lv_has ls 2 [(0, .int a1), (1, .int a2)] := hl
  have hf : ((f_JPre_checkIndex a1 a2).bind fun u5 => some ()) = some r := hf
  refine lv_iload_n S.1 S.2.1 d_JStr_checkIndex_0 rfl (lv_at hl 0 rfl) ?_
  refine lv_iload_n S.1 S.2.1 d_JStr_checkIndex_1 rfl (lv_at hl 1 rfl) ?_
  rcases gx_sio E with hq | ⟨tq, hq⟩
  ·
    refine va_gets S.1 S.2.1 hq hS S.2.2.2.1 (S.2.2.2.2 _ wd_454) (fun _ h => h) d_JStr_checkIndex_2 ?_
    obtain ⟨u5, hc5, hf⟩ := gx_bnd hf
    refine gx_Si (ws2 := (ww_JStr_checkIndex g )) S E hS hP hD (c_JPre_checkIndex_n l z D g a1 a2 u5 hc5) cal_JPre_checkIndex wd_457 wd_456 rfl [] rfl rfl rfl rfl hl.1 rfl d_JStr_checkIndex_5 ⟨Nat.zero_le _, Nat.zero_le _⟩ rfl (fun H locs hS hP hD => ?_)
    refine lv_pop S.1 S.2.1 d_JStr_checkIndex_8 rfl ?_
    obtain rfl := Option.some.inj hf
    exact gx_rv S hr hlk hS hP hD d_JStr_checkIndex_9
  ·
    refine va_gets S.1 S.2.1 hq hS S.2.2.2.1 (S.2.2.2.2 _ wd_454) (fun _ h => h) d_JStr_checkIndex_2 ?_
    obtain ⟨u5, hc5, hf⟩ := gx_bnd hf
    refine gx_Si (ws2 := (ww_JStr_checkIndex g )) S E hS hP hD (c_JPre_checkIndex l z D g tq a1 a2 u5 hc5) cal_JPre_checkIndex wd_457 wd_456 rfl [] rfl rfl rfl rfl hl.1 rfl d_JStr_checkIndex_5 ⟨Nat.zero_le _, Nat.zero_le _⟩ rfl (fun H locs hS hP hD => ?_)
    refine lv_pop S.1 S.2.1 d_JStr_checkIndex_8 rfl ?_
    obtain rfl := Option.some.inj hf
    exact gx_rv S hr hlk hS hP hD d_JStr_checkIndex_9
theorem d_JLat_charAt_0 : decode b_JLat_charAt 0 = .ok (.iload_n 1, 1) := by decide +kernel
theorem d_JLat_charAt_1 : decode b_JLat_charAt 1 = .ok (.aload_n 0, 1) := by decide +kernel
theorem d_JLat_charAt_2 : decode b_JLat_charAt 2 = .ok (.arraylength, 1) := by decide +kernel
theorem d_JLat_charAt_3 : decode b_JLat_charAt 3 = .ok (.invokestatic 9, 3) := by decide +kernel
theorem d_JLat_charAt_6 : decode b_JLat_charAt 6 = .ok (.aload_n 0, 1) := by decide +kernel
theorem d_JLat_charAt_7 : decode b_JLat_charAt 7 = .ok (.iload_n 1, 1) := by decide +kernel
theorem d_JLat_charAt_8 : decode b_JLat_charAt 8 = .ok (.baload, 1) := by decide +kernel
theorem d_JLat_charAt_9 : decode b_JLat_charAt 9 = .ok (.sipush 255, 3) := by decide +kernel
theorem d_JLat_charAt_12 : decode b_JLat_charAt 12 = .ok (.iand, 1) := by decide +kernel
theorem d_JLat_charAt_13 : decode b_JLat_charAt 13 = .ok (.i2c, 1) := by decide +kernel
theorem d_JLat_charAt_14 : decode b_JLat_charAt 14 = .ok (.ireturn, 1) := by decide +kernel
theorem cal_JLat_charAt : gx_cal y_JLat_charAt b_JLat_charAt 2 (some .char) 2 := ⟨wd_450, wd_22, by decide +kernel⟩
def ww_JLat_charAt (g : Nat → ClassId)  : va_W := []
def f_JLat_charAt (a1 : Nat) (a2 : Int32) : Option (Int32) := if a1 < 74 then (f_JStr_checkIndex a2 (Int32.ofNat (gl_len.getD a1 0))).bind fun u3 => if a1 < 74 then if gx_ok a2 (gl_len.getD a1 0) = true then if gx_nr .char (((((gl_byt.getD a1 []).getD a2.toNatClampNeg 0) &&& (255 : Int32)).toUInt32 % 65536).toInt32) = true then some (((((gl_byt.getD a1 []).getD a2.toNatClampNeg 0) &&& (255 : Int32)).toUInt32 % 65536).toInt32) else none else none else none else none
set_option maxHeartbeats 4000000 in
set_option maxRecDepth 100000 in
theorem c_JLat_charAt (l : Launch) (z : State) (D : va_G) (g : Nat → ClassId) (a1 : Nat) (a2 : Int32) (r : Int32) (hf : f_JLat_charAt a1 a2 = some r) : gx_Mi l z D g y_JLat_charAt b_JLat_charAt 2 .char ({ frames := 2, cells := 0, slots := 0, locals := 43 } : Room) [.ref (g (300 + a1)), .int a2] (ww_JLat_charAt g ) (ww_JLat_charAt g ) r := by
  refine gx_go (by decide +kernel) rfl ?_
  intro p e s m below meth c ls S hr hlk hnm E hP hD hl
  have hS : va_S (va_A (ww_JLat_charAt g ) s.heap.size) s.heap s.heap [] := va_S.rf
  have hl : lv_has ls 2 [(0, .ref (g (300 + a1))), (1, .int a2)] := hl
  have hf : (if a1 < 74 then (f_JStr_checkIndex a2 (Int32.ofNat (gl_len.getD a1 0))).bind fun u3 => if a1 < 74 then if gx_ok a2 (gl_len.getD a1 0) = true then if gx_nr .char (((((gl_byt.getD a1 []).getD a2.toNatClampNeg 0) &&& (255 : Int32)).toUInt32 % 65536).toInt32) = true then some (((((gl_byt.getD a1 []).getD a2.toNatClampNeg 0) &&& (255 : Int32)).toUInt32 % 65536).toInt32) else none else none else none else none) = some r := hf
  refine lv_iload_n S.1 S.2.1 d_JLat_charAt_0 rfl (lv_at hl 1 rfl) ?_
  refine lv_aload_n S.1 S.2.1 d_JLat_charAt_1 rfl (lv_at hl 0 rfl) ?_
  obtain ⟨hsm, hf⟩ := gx_chk hf
  refine va_tlen (v := Int32.ofNat (gl_len.getD a1 0)) S.1 S.2.1 (gx_stT E hsm) hS rfl d_JLat_charAt_2 ?_
  obtain ⟨u3, hc3, hf⟩ := gx_bnd hf
  refine gx_Sv (ws2 := (ww_JLat_charAt g )) S E hS hP hD (c_JStr_checkIndex l z D g a2 (Int32.ofNat (gl_len.getD a1 0)) u3 hc3) cal_JStr_checkIndex wd_452 wd_451 rfl [] rfl rfl rfl rfl hl.1 rfl d_JLat_charAt_3 ⟨Nat.zero_le _, Nat.zero_le _⟩ rfl (fun H locs hS hP hD => ?_)
  refine lv_aload_n S.1 S.2.1 d_JLat_charAt_6 rfl (lv_at hl 0 rfl) ?_
  refine lv_iload_n S.1 S.2.1 d_JLat_charAt_7 rfl (lv_at hl 1 rfl) ?_
  obtain ⟨hsm, hf⟩ := gx_chk hf
  obtain ⟨hin, hf⟩ := gx_chk hf
  refine va_tb (v := .int ((gl_byt.getD a1 []).getD a2.toNatClampNeg 0)) S.1 S.2.1 (gx_stT E hsm) hS (gx_okv hin) rfl d_JLat_charAt_8 ?_
  refine lv_sipush (v := 255) S.1 S.2.1 d_JLat_charAt_9 (by decide) ?_
  refine lv_iand S.1 S.2.1 d_JLat_charAt_12 ?_
  refine lv_i2c S.1 S.2.1 d_JLat_charAt_13 rfl ?_
  obtain ⟨hbo, hf⟩ := gx_chk hf
  obtain rfl := Option.some.inj hf
  exact gx_rz S hr (gx_nr_n hbo) hlk hS hP hD d_JLat_charAt_14
theorem d_JStr_charAt_0 : decode b_JStr_charAt 0 = .ok (.aload_n 0, 1) := by decide +kernel
theorem d_JStr_charAt_1 : decode b_JStr_charAt 1 = .ok (.invokevirtual 492, 3) := by decide +kernel
theorem d_JStr_charAt_4 : decode b_JStr_charAt 4 = .ok (.ifCond .eq 12, 3) := by decide +kernel
theorem d_JStr_charAt_7 : decode b_JStr_charAt 7 = .ok (.aload_n 0, 1) := by decide +kernel
theorem d_JStr_charAt_8 : decode b_JStr_charAt 8 = .ok (.getfield 9, 3) := by decide +kernel
theorem d_JStr_charAt_11 : decode b_JStr_charAt 11 = .ok (.iload_n 1, 1) := by decide +kernel
theorem d_JStr_charAt_12 : decode b_JStr_charAt 12 = .ok (.invokestatic 495, 3) := by decide +kernel
theorem d_JStr_charAt_15 : decode b_JStr_charAt 15 = .ok (.ireturn, 1) := by decide +kernel
theorem d_JStr_charAt_16 : decode b_JStr_charAt 16 = .ok (.aload_n 0, 1) := by decide +kernel
theorem d_JStr_charAt_17 : decode b_JStr_charAt 17 = .ok (.getfield 9, 3) := by decide +kernel
theorem d_JStr_charAt_20 : decode b_JStr_charAt 20 = .ok (.iload_n 1, 1) := by decide +kernel
theorem d_JStr_charAt_21 : decode b_JStr_charAt 21 = .ok (.invokestatic 498, 3) := by decide +kernel
theorem d_JStr_charAt_24 : decode b_JStr_charAt 24 = .ok (.ireturn, 1) := by decide +kernel
theorem cal_JStr_charAt : gx_cal y_JStr_charAt b_JStr_charAt 2 (some .char) 1 := ⟨wd_443, wd_21, by decide +kernel⟩
def ww_JStr_charAt (g : Nat → ClassId)  : va_W := []
def f_JStr_charAt (o : Nat) (a1 : Int32) : Option (Int32) := if o < 74 then (f_JStr_isLatin1 o).bind fun u1 => if u1 = 0 then (none) else (if o < 74 then (f_JLat_charAt o a1).bind fun u12 => if gx_nr .char u12 = true then some u12 else none else none) else none
set_option maxHeartbeats 4000000 in
set_option maxRecDepth 100000 in
theorem c_JStr_charAt (l : Launch) (z : State) (D : va_G) (g : Nat → ClassId) (o : Nat) (a1 : Int32) (r : Int32) (hf : f_JStr_charAt o a1 = some r) : gx_Mi l z D g y_JStr_charAt b_JStr_charAt 2 .char ({ frames := 3, cells := 0, slots := 0, locals := 64 } : Room) [.ref (g (100 + o)), .int a1] (ww_JStr_charAt g ) (ww_JStr_charAt g ) r := by
  refine gx_go (by decide +kernel) rfl ?_
  intro p e s m below meth c ls S hr hlk hnm E hP hD hl
  have hS : va_S (va_A (ww_JStr_charAt g ) s.heap.size) s.heap s.heap [] := va_S.rf
  have hl : lv_has ls 2 [(0, .ref (g (100 + o))), (1, .int a1)] := hl
  have hf : (if o < 74 then (f_JStr_isLatin1 o).bind fun u1 => if u1 = 0 then (none) else (if o < 74 then (f_JLat_charAt o a1).bind fun u12 => if gx_nr .char u12 = true then some u12 else none else none) else none) = some r := hf
  refine lv_aload_n S.1 S.2.1 d_JStr_charAt_0 rfl (lv_at hl 0 rfl) ?_
  obtain ⟨hk1z, hf⟩ := gx_chk hf
  obtain ⟨u1, hc1, hf⟩ := gx_bnd hf
  refine gx_Vi (ws2 := (ww_JStr_charAt g )) S E hS hP hD (c_JStr_isLatin1 l z D g o u1 hc1) cal_JStr_isLatin1 wd_445 wd_446 wd_444 rfl [] rfl rfl rfl (gx_rcO (gx_stO E hk1z) hS) rfl hl.1 rfl d_JStr_charAt_1 ⟨Nat.zero_le _, Nat.zero_le _⟩ rfl (fun H locs hS hP hD => ?_)
  refine lv_if_eq (tgt := 16) S.1 S.2.1 d_JStr_charAt_4 (by decide) (fun h => ?_) (fun h => ?_)
  ·
    have hf := gx_ifp h hf
    cases hf
  ·
    have hf := gx_ifn h hf
    refine lv_aload_n S.1 S.2.1 d_JStr_charAt_7 rfl (lv_at hl 0 rfl) ?_
    obtain ⟨hsm, hf⟩ := gx_chk hf
    refine vk_getf (v := .ref (g (300 + o))) S.1 S.2.1 (gx_stV E hsm) hS S.2.2.2.1 (S.2.2.2.2 _ wd_1844) (fun _ h => h) d_JStr_charAt_8 ?_
    refine lv_iload_n S.1 S.2.1 d_JStr_charAt_11 rfl (lv_at hl 1 rfl) ?_
    obtain ⟨u12, hc12, hf⟩ := gx_bnd hf
    refine gx_Si (ws2 := (ww_JStr_charAt g )) S E hS hP hD (c_JLat_charAt l z D g o a1 u12 hc12) cal_JLat_charAt wd_449 wd_448 rfl [] rfl rfl rfl rfl hl.1 rfl d_JStr_charAt_12 ⟨Nat.zero_le _, Nat.zero_le _⟩ rfl (fun H locs hS hP hD => ?_)
    obtain ⟨hbo, hf⟩ := gx_chk hf
    obtain rfl := Option.some.inj hf
    exact gx_rz S hr (gx_nr_n hbo) hlk hS hP hD d_JStr_charAt_15
theorem d_JLat_canEncode_0 : decode b_JLat_canEncode 0 = .ok (.iload_n 0, 1) := by decide +kernel
theorem d_JLat_canEncode_1 : decode b_JLat_canEncode 1 = .ok (.ifCond .lt 14, 3) := by decide +kernel
theorem d_JLat_canEncode_4 : decode b_JLat_canEncode 4 = .ok (.iload_n 0, 1) := by decide +kernel
theorem d_JLat_canEncode_5 : decode b_JLat_canEncode 5 = .ok (.sipush 255, 3) := by decide +kernel
theorem d_JLat_canEncode_8 : decode b_JLat_canEncode 8 = .ok (.if_icmp .gt 7, 3) := by decide +kernel
theorem d_JLat_canEncode_11 : decode b_JLat_canEncode 11 = .ok (.iconst 1, 1) := by decide +kernel
theorem d_JLat_canEncode_12 : decode b_JLat_canEncode 12 = .ok (.goto 4, 3) := by decide +kernel
theorem d_JLat_canEncode_15 : decode b_JLat_canEncode 15 = .ok (.iconst 0, 1) := by decide +kernel
theorem d_JLat_canEncode_16 : decode b_JLat_canEncode 16 = .ok (.ireturn, 1) := by decide +kernel
theorem cal_JLat_canEncode : gx_cal y_JLat_canEncode b_JLat_canEncode 1 (some .boolean) 1 := ⟨wd_1117, wd_22, by decide +kernel⟩
def ww_JLat_canEncode (g : Nat → ClassId)  : va_W := []
def f_JLat_canEncode (a1 : Int32) : Option (Int32) := if a1 < 0 then (some (0 : Int32)) else (if (255 : Int32) < a1 then (some (0 : Int32)) else (some (1 : Int32)))
set_option maxHeartbeats 4000000 in
set_option maxRecDepth 100000 in
theorem c_JLat_canEncode (l : Launch) (z : State) (D : va_G) (g : Nat → ClassId) (a1 : Int32) (r : Int32) (hf : f_JLat_canEncode a1 = some r) : gx_Mi l z D g y_JLat_canEncode b_JLat_canEncode 1 .boolean ({ frames := 0, cells := 0, slots := 0, locals := 0 } : Room) [.int a1] (ww_JLat_canEncode g ) (ww_JLat_canEncode g ) r := by
  refine gx_go (by decide +kernel) rfl ?_
  intro p e s m below meth c ls S hr hlk hnm E hP hD hl
  have hS : va_S (va_A (ww_JLat_canEncode g ) s.heap.size) s.heap s.heap [] := va_S.rf
  have hl : lv_has ls 1 [(0, .int a1)] := hl
  have hf : (if a1 < 0 then (some (0 : Int32)) else (if (255 : Int32) < a1 then (some (0 : Int32)) else (some (1 : Int32)))) = some r := hf
  refine lv_iload_n S.1 S.2.1 d_JLat_canEncode_0 rfl (lv_at hl 0 rfl) ?_
  refine lv_if_lt (tgt := 15) S.1 S.2.1 d_JLat_canEncode_1 (by decide) (fun h => ?_) (fun h => ?_)
  ·
    have hf := gx_ifp h hf
    refine lv_iconst (v := 0) S.1 S.2.1 d_JLat_canEncode_15 (by decide) ?_
    obtain rfl := Option.some.inj hf
    exact gx_rz S hr gx_n0 hlk hS hP hD d_JLat_canEncode_16
  ·
    have hf := gx_ifn h hf
    refine lv_iload_n S.1 S.2.1 d_JLat_canEncode_4 rfl (lv_at hl 0 rfl) ?_
    refine lv_sipush (v := 255) S.1 S.2.1 d_JLat_canEncode_5 (by decide) ?_
    refine lv_icmp_gt (tgt := 15) S.1 S.2.1 d_JLat_canEncode_8 (by decide) (fun h => ?_) (fun h => ?_)
    ·
      have hf := gx_ifp h hf
      refine lv_iconst (v := 0) S.1 S.2.1 d_JLat_canEncode_15 (by decide) ?_
      obtain rfl := Option.some.inj hf
      exact gx_rz S hr gx_n0 hlk hS hP hD d_JLat_canEncode_16
    ·
      have hf := gx_ifn h hf
      refine lv_iconst (v := 1) S.1 S.2.1 d_JLat_canEncode_11 (by decide) ?_
      refine lv_goto (tgt := 16) S.1 S.2.1 d_JLat_canEncode_12 (by decide) ?_
      obtain rfl := Option.some.inj hf
      exact gx_rz S hr gx_n1 hlk hS hP hD d_JLat_canEncode_16
theorem d_JLat_indexOfChar_0 : decode b_JLat_indexOfChar 0 = .ok (.iload_n 1, 1) := by decide +kernel
theorem d_JLat_indexOfChar_1 : decode b_JLat_indexOfChar 1 = .ok (.i2b, 1) := by decide +kernel
theorem d_JLat_indexOfChar_2 : decode b_JLat_indexOfChar 2 = .ok (.istore 4, 2) := by decide +kernel
theorem d_JLat_indexOfChar_4 : decode b_JLat_indexOfChar 4 = .ok (.iload_n 2, 1) := by decide +kernel
theorem d_JLat_indexOfChar_5 : decode b_JLat_indexOfChar 5 = .ok (.istore 5, 2) := by decide +kernel
theorem d_JLat_indexOfChar_7 : decode b_JLat_indexOfChar 7 = .ok (.iload 5, 2) := by decide +kernel
theorem d_JLat_indexOfChar_9 : decode b_JLat_indexOfChar 9 = .ok (.iload_n 3, 1) := by decide +kernel
theorem d_JLat_indexOfChar_10 : decode b_JLat_indexOfChar 10 = .ok (.if_icmp .ge 21, 3) := by decide +kernel
theorem d_JLat_indexOfChar_13 : decode b_JLat_indexOfChar 13 = .ok (.aload_n 0, 1) := by decide +kernel
theorem d_JLat_indexOfChar_14 : decode b_JLat_indexOfChar 14 = .ok (.iload 5, 2) := by decide +kernel
theorem d_JLat_indexOfChar_16 : decode b_JLat_indexOfChar 16 = .ok (.baload, 1) := by decide +kernel
theorem d_JLat_indexOfChar_17 : decode b_JLat_indexOfChar 17 = .ok (.iload 4, 2) := by decide +kernel
theorem d_JLat_indexOfChar_19 : decode b_JLat_indexOfChar 19 = .ok (.if_icmp .ne 6, 3) := by decide +kernel
theorem d_JLat_indexOfChar_22 : decode b_JLat_indexOfChar 22 = .ok (.iload 5, 2) := by decide +kernel
theorem d_JLat_indexOfChar_24 : decode b_JLat_indexOfChar 24 = .ok (.ireturn, 1) := by decide +kernel
theorem d_JLat_indexOfChar_25 : decode b_JLat_indexOfChar 25 = .ok (.iinc 5 1, 3) := by decide +kernel
theorem d_JLat_indexOfChar_28 : decode b_JLat_indexOfChar 28 = .ok (.goto (-21), 3) := by decide +kernel
theorem d_JLat_indexOfChar_31 : decode b_JLat_indexOfChar 31 = .ok (.iconst (-1), 1) := by decide +kernel
theorem d_JLat_indexOfChar_32 : decode b_JLat_indexOfChar 32 = .ok (.ireturn, 1) := by decide +kernel
theorem cal_JLat_indexOfChar : gx_cal y_JLat_indexOfChar b_JLat_indexOfChar 6 (some .int) 4 := ⟨wd_1122, wd_22, by decide +kernel⟩
def ww_JLat_indexOfChar (g : Nat → ClassId)  : va_W := []
def f_JLat_indexOfChar_7 : Nat → Nat → Int32 → Int32 → Int32 → Option (Int32)
  | 0, _, _, _, _ => none
  | n + 1, v0, v3, v4, v5 => if v3 ≤ v5 then (some (-1 : Int32)) else (if v0 < 74 then if gx_ok v5 (gl_len.getD v0 0) = true then if ((gl_byt.getD v0 []).getD v5.toNatClampNeg 0) = v4 then (some v5) else (f_JLat_indexOfChar_7 n v0 v3 v4 (v5 + 1)) else none else none)
def f_JLat_indexOfChar (a1 : Nat) (a2 : Int32) (a3 : Int32) (a4 : Int32) : Option (Int32) := f_JLat_indexOfChar_7 gx_fu a1 a4 a2.toInt8.toInt32 a3
set_option maxHeartbeats 4000000 in
set_option maxRecDepth 100000 in
theorem c_JLat_indexOfChar (l : Launch) (z : State) (D : va_G) (g : Nat → ClassId) (a1 : Nat) (a2 : Int32) (a3 : Int32) (a4 : Int32) (r : Int32) (hf : f_JLat_indexOfChar a1 a2 a3 a4 = some r) : gx_Mi l z D g y_JLat_indexOfChar b_JLat_indexOfChar 6 .int ({ frames := 0, cells := 0, slots := 0, locals := 0 } : Room) [.ref (g (300 + a1)), .int a2, .int a3, .int a4] (ww_JLat_indexOfChar g ) (ww_JLat_indexOfChar g ) r := by
  refine gx_go (by decide +kernel) rfl ?_
  intro p e s m below meth c ls S hr hlk hnm E hP hD hl
  have hS : va_S (va_A (ww_JLat_indexOfChar g ) s.heap.size) s.heap s.heap [] := va_S.rf
  have hl : lv_has ls 6 [(0, .ref (g (300 + a1))), (1, .int a2), (2, .int a3), (3, .int a4)] := hl
  have c_7 : ∀ n : Nat, ∀ (v0 : Nat) (v3 : Int32) (v4 : Int32) (v5 : Int32) (ls : Array Slot) (H : Heap) (locs : List Loc), lv_has ls 6 [(0, .ref (g (300 + v0))), (3, .int v3), (4, .int v4), (5, .int v5)] → va_S (va_A (ww_JLat_indexOfChar g ) s.heap.size) s.heap H locs → va_P D vwC (ww_JLat_indexOfChar g ) H → va_D (va_A (ww_JLat_indexOfChar g ) s.heap.size) (ww_JLat_indexOfChar g ) → (f_JLat_indexOfChar_7 n v0 v3 v4 v5) = some r → W p l e ({ frames := 0, cells := 0, slots := 0, locals := 0 } : Room) s m ([.ref (g (300 + a1)), .int a2, .int a3, .int a4] : List Value).toArray below meth c H locs 0 0 (MQ below (gx_Qi D (ww_JLat_indexOfChar g ) (ww_JLat_indexOfChar g ) r s.heap.size) ([.ref (g (300 + a1)), .int a2, .int a3, .int a4] : List Value).toArray s 0 0 (va_A (ww_JLat_indexOfChar g ) s.heap.size)) (F0 m 7 ls []) := by
    intro n
    induction n with
    | zero => intro v0 v3 v4 v5 ls H locs hl hS hP hD hf; cases hf
    | succ n ih =>
      intro v0 v3 v4 v5 ls H locs hl hS hP hD hf
      have hf : (if v3 ≤ v5 then (some (-1 : Int32)) else (if v0 < 74 then if gx_ok v5 (gl_len.getD v0 0) = true then if ((gl_byt.getD v0 []).getD v5.toNatClampNeg 0) = v4 then (some v5) else (f_JLat_indexOfChar_7 n v0 v3 v4 (v5 + 1)) else none else none)) = some r := hf
      refine lv_iload S.1 S.2.1 d_JLat_indexOfChar_7 (lv_at hl 3 rfl) ?_
      refine lv_iload_n S.1 S.2.1 d_JLat_indexOfChar_9 rfl (lv_at hl 1 rfl) ?_
      refine lv_icmp_ge (tgt := 31) S.1 S.2.1 d_JLat_indexOfChar_10 (by decide) (fun h => ?_) (fun h => ?_)
      ·
        have hf := gx_ifp h hf
        refine lv_iconst (v := (-1)) S.1 S.2.1 d_JLat_indexOfChar_31 (by decide) ?_
        obtain rfl := Option.some.inj hf
        exact gx_ri S hr hlk hS hP hD d_JLat_indexOfChar_32
      ·
        have hf := gx_ifn h hf
        refine lv_aload_n S.1 S.2.1 d_JLat_indexOfChar_13 rfl (lv_at hl 0 rfl) ?_
        refine lv_iload S.1 S.2.1 d_JLat_indexOfChar_14 (lv_at hl 3 rfl) ?_
        obtain ⟨hsm, hf⟩ := gx_chk hf
        obtain ⟨hin, hf⟩ := gx_chk hf
        refine va_tb (v := .int ((gl_byt.getD v0 []).getD v5.toNatClampNeg 0)) S.1 S.2.1 (gx_stT E hsm) hS (gx_okv hin) rfl d_JLat_indexOfChar_16 ?_
        refine lv_iload S.1 S.2.1 d_JLat_indexOfChar_17 (lv_at hl 2 rfl) ?_
        refine lv_icmp_ne (tgt := 25) S.1 S.2.1 d_JLat_indexOfChar_19 (by decide) (fun h => ?_) (fun h => ?_)
        ·
          have hf := gx_ifn h hf
          refine lv_iinc (v := v5 + 1) (lv' := [(5, .int (v5 + 1)), (0, .ref (g (300 + v0))), (3, .int v3), (4, .int v4)]) S.1 S.2.1 d_JLat_indexOfChar_25 hl (k := 3) rfl rfl (by decide) rfl (fun ls hl => ?_)
          refine lv_goto (tgt := 7) S.1 S.2.1 d_JLat_indexOfChar_28 (by decide) ?_
          exact ih v0 v3 v4 (v5 + 1) ls _ _ (lv_sub hl [1, 2, 3, 0] rfl) hS hP hD hf
        ·
          have hf := gx_ifp h hf
          refine lv_iload S.1 S.2.1 d_JLat_indexOfChar_22 (lv_at hl 3 rfl) ?_
          obtain rfl := Option.some.inj hf
          exact gx_ri S hr hlk hS hP hD d_JLat_indexOfChar_24
  have hf : (f_JLat_indexOfChar_7 gx_fu a1 a4 a2.toInt8.toInt32 a3) = some r := hf
  refine lv_iload_n S.1 S.2.1 d_JLat_indexOfChar_0 rfl (lv_at hl 1 rfl) ?_
  refine lv_i2b S.1 S.2.1 d_JLat_indexOfChar_1 rfl ?_
  refine lv_istore (lv' := [(4, .int a2.toInt8.toInt32), (0, .ref (g (300 + a1))), (1, .int a2), (2, .int a3), (3, .int a4)]) S.1 S.2.1 d_JLat_indexOfChar_2 hl (by decide) rfl (fun ls hl => ?_)
  refine lv_iload_n S.1 S.2.1 d_JLat_indexOfChar_4 rfl (lv_at hl 3 rfl) ?_
  refine lv_istore (lv' := [(5, .int a3), (4, .int a2.toInt8.toInt32), (0, .ref (g (300 + a1))), (1, .int a2), (2, .int a3), (3, .int a4)]) S.1 S.2.1 d_JLat_indexOfChar_5 hl (by decide) rfl (fun ls hl => ?_)
  exact c_7 gx_fu a1 a4 a2.toInt8.toInt32 a3 ls _ _ (lv_sub hl [2, 5, 1, 0] rfl) hS hP hD hf
theorem d_JLat_indexOf_0 : decode b_JLat_indexOf 0 = .ok (.iload_n 1, 1) := by decide +kernel
theorem d_JLat_indexOf_1 : decode b_JLat_indexOf 1 = .ok (.invokestatic 88, 3) := by decide +kernel
theorem d_JLat_indexOf_4 : decode b_JLat_indexOf 4 = .ok (.ifCond .ne 5, 3) := by decide +kernel
theorem d_JLat_indexOf_7 : decode b_JLat_indexOf 7 = .ok (.iconst (-1), 1) := by decide +kernel
theorem d_JLat_indexOf_8 : decode b_JLat_indexOf 8 = .ok (.ireturn, 1) := by decide +kernel
theorem d_JLat_indexOf_9 : decode b_JLat_indexOf 9 = .ok (.iload_n 2, 1) := by decide +kernel
theorem d_JLat_indexOf_10 : decode b_JLat_indexOf 10 = .ok (.iconst 0, 1) := by decide +kernel
theorem d_JLat_indexOf_11 : decode b_JLat_indexOf 11 = .ok (.invokestatic 92, 3) := by decide +kernel
theorem d_JLat_indexOf_14 : decode b_JLat_indexOf 14 = .ok (.istore_n 2, 1) := by decide +kernel
theorem d_JLat_indexOf_15 : decode b_JLat_indexOf 15 = .ok (.iload_n 3, 1) := by decide +kernel
theorem d_JLat_indexOf_16 : decode b_JLat_indexOf 16 = .ok (.aload_n 0, 1) := by decide +kernel
theorem d_JLat_indexOf_17 : decode b_JLat_indexOf 17 = .ok (.arraylength, 1) := by decide +kernel
theorem d_JLat_indexOf_18 : decode b_JLat_indexOf 18 = .ok (.invokestatic 38, 3) := by decide +kernel
theorem d_JLat_indexOf_21 : decode b_JLat_indexOf 21 = .ok (.istore_n 3, 1) := by decide +kernel
theorem d_JLat_indexOf_22 : decode b_JLat_indexOf 22 = .ok (.iload_n 2, 1) := by decide +kernel
theorem d_JLat_indexOf_23 : decode b_JLat_indexOf 23 = .ok (.iload_n 3, 1) := by decide +kernel
theorem d_JLat_indexOf_24 : decode b_JLat_indexOf 24 = .ok (.if_icmp .lt 5, 3) := by decide +kernel
theorem d_JLat_indexOf_27 : decode b_JLat_indexOf 27 = .ok (.iconst (-1), 1) := by decide +kernel
theorem d_JLat_indexOf_28 : decode b_JLat_indexOf 28 = .ok (.ireturn, 1) := by decide +kernel
theorem d_JLat_indexOf_29 : decode b_JLat_indexOf 29 = .ok (.aload_n 0, 1) := by decide +kernel
theorem d_JLat_indexOf_30 : decode b_JLat_indexOf 30 = .ok (.iload_n 1, 1) := by decide +kernel
theorem d_JLat_indexOf_31 : decode b_JLat_indexOf 31 = .ok (.iload_n 2, 1) := by decide +kernel
theorem d_JLat_indexOf_32 : decode b_JLat_indexOf 32 = .ok (.iload_n 3, 1) := by decide +kernel
theorem d_JLat_indexOf_33 : decode b_JLat_indexOf 33 = .ok (.invokestatic 95, 3) := by decide +kernel
theorem d_JLat_indexOf_36 : decode b_JLat_indexOf 36 = .ok (.ireturn, 1) := by decide +kernel
theorem cal_JLat_indexOf : gx_cal y_JLat_indexOf b_JLat_indexOf 4 (some .int) 4 := ⟨wd_1114, wd_22, by decide +kernel⟩
def ww_JLat_indexOf (g : Nat → ClassId)  : va_W := []
def f_JLat_indexOf (a1 : Nat) (a2 : Int32) (a3 : Int32) (a4 : Int32) : Option (Int32) := (f_JLat_canEncode a2).bind fun u1 => if u1 = 0 then (some (-1 : Int32)) else ((f_JMath_max a3 (0 : Int32)).bind fun u11 => if a1 < 74 then (f_JMath_min a4 (Int32.ofNat (gl_len.getD a1 0))).bind fun u18 => if u11 < u18 then ((f_JLat_indexOfChar a1 a2 u11 u18).bind fun u33 => some u33) else (some (-1 : Int32)) else none)
set_option maxHeartbeats 4000000 in
set_option maxRecDepth 100000 in
theorem c_JLat_indexOf (l : Launch) (z : State) (D : va_G) (g : Nat → ClassId) (a1 : Nat) (a2 : Int32) (a3 : Int32) (a4 : Int32) (r : Int32) (hf : f_JLat_indexOf a1 a2 a3 a4 = some r) : gx_Mi l z D g y_JLat_indexOf b_JLat_indexOf 4 .int ({ frames := 1, cells := 0, slots := 0, locals := 25 } : Room) [.ref (g (300 + a1)), .int a2, .int a3, .int a4] (ww_JLat_indexOf g ) (ww_JLat_indexOf g ) r := by
  refine gx_go (by decide +kernel) rfl ?_
  intro p e s m below meth c ls S hr hlk hnm E hP hD hl
  have hS : va_S (va_A (ww_JLat_indexOf g ) s.heap.size) s.heap s.heap [] := va_S.rf
  have hl : lv_has ls 4 [(0, .ref (g (300 + a1))), (1, .int a2), (2, .int a3), (3, .int a4)] := hl
  have hf : ((f_JLat_canEncode a2).bind fun u1 => if u1 = 0 then (some (-1 : Int32)) else ((f_JMath_max a3 (0 : Int32)).bind fun u11 => if a1 < 74 then (f_JMath_min a4 (Int32.ofNat (gl_len.getD a1 0))).bind fun u18 => if u11 < u18 then ((f_JLat_indexOfChar a1 a2 u11 u18).bind fun u33 => some u33) else (some (-1 : Int32)) else none)) = some r := hf
  refine lv_iload_n S.1 S.2.1 d_JLat_indexOf_0 rfl (lv_at hl 1 rfl) ?_
  obtain ⟨u1, hc1, hf⟩ := gx_bnd hf
  refine gx_Si (ws2 := (ww_JLat_indexOf g )) S E hS hP hD (c_JLat_canEncode l z D g a2 u1 hc1) cal_JLat_canEncode wd_1116 wd_1115 rfl [] rfl rfl rfl rfl hl.1 rfl d_JLat_indexOf_1 ⟨Nat.zero_le _, Nat.zero_le _⟩ rfl (fun H locs hS hP hD => ?_)
  refine lv_if_ne (tgt := 9) S.1 S.2.1 d_JLat_indexOf_4 (by decide) (fun h => ?_) (fun h => ?_)
  ·
    have hf := gx_ifn h hf
    refine lv_iload_n S.1 S.2.1 d_JLat_indexOf_9 rfl (lv_at hl 2 rfl) ?_
    refine lv_iconst (v := 0) S.1 S.2.1 d_JLat_indexOf_10 (by decide) ?_
    obtain ⟨u11, hc11, hf⟩ := gx_bnd hf
    refine gx_Si (ws2 := (ww_JLat_indexOf g )) S E hS hP hD (c_JMath_max l z D g a3 (0 : Int32) u11 hc11) cal_JMath_max wd_411 wd_1118 rfl [] rfl rfl rfl rfl hl.1 rfl d_JLat_indexOf_11 ⟨Nat.zero_le _, Nat.zero_le _⟩ rfl (fun H locs hS hP hD => ?_)
    refine lv_istore_n (lv' := [(2, .int u11), (0, .ref (g (300 + a1))), (1, .int a2), (3, .int a4)]) S.1 S.2.1 d_JLat_indexOf_14 rfl hl (by decide) rfl (fun ls hl => ?_)
    refine lv_iload_n S.1 S.2.1 d_JLat_indexOf_15 rfl (lv_at hl 3 rfl) ?_
    refine lv_aload_n S.1 S.2.1 d_JLat_indexOf_16 rfl (lv_at hl 1 rfl) ?_
    obtain ⟨hsm, hf⟩ := gx_chk hf
    refine va_tlen (v := Int32.ofNat (gl_len.getD a1 0)) S.1 S.2.1 (gx_stT E hsm) hS rfl d_JLat_indexOf_17 ?_
    obtain ⟨u18, hc18, hf⟩ := gx_bnd hf
    refine gx_Si (ws2 := (ww_JLat_indexOf g )) S E hS hP hD (c_JMath_min l z D g a4 (Int32.ofNat (gl_len.getD a1 0)) u18 hc18) cal_JMath_min wd_419 wd_1119 rfl [] rfl rfl rfl rfl hl.1 rfl d_JLat_indexOf_18 ⟨Nat.zero_le _, Nat.zero_le _⟩ rfl (fun H locs hS hP hD => ?_)
    refine lv_istore_n (lv' := [(3, .int u18), (2, .int u11), (0, .ref (g (300 + a1))), (1, .int a2)]) S.1 S.2.1 d_JLat_indexOf_21 rfl hl (by decide) rfl (fun ls hl => ?_)
    refine lv_iload_n S.1 S.2.1 d_JLat_indexOf_22 rfl (lv_at hl 1 rfl) ?_
    refine lv_iload_n S.1 S.2.1 d_JLat_indexOf_23 rfl (lv_at hl 0 rfl) ?_
    refine lv_icmp_lt (tgt := 29) S.1 S.2.1 d_JLat_indexOf_24 (by decide) (fun h => ?_) (fun h => ?_)
    ·
      have hf := gx_ifp h hf
      refine lv_aload_n S.1 S.2.1 d_JLat_indexOf_29 rfl (lv_at hl 2 rfl) ?_
      refine lv_iload_n S.1 S.2.1 d_JLat_indexOf_30 rfl (lv_at hl 3 rfl) ?_
      refine lv_iload_n S.1 S.2.1 d_JLat_indexOf_31 rfl (lv_at hl 1 rfl) ?_
      refine lv_iload_n S.1 S.2.1 d_JLat_indexOf_32 rfl (lv_at hl 0 rfl) ?_
      obtain ⟨u33, hc33, hf⟩ := gx_bnd hf
      refine gx_Si (ws2 := (ww_JLat_indexOf g )) S E hS hP hD (c_JLat_indexOfChar l z D g a1 a2 u11 u18 u33 hc33) cal_JLat_indexOfChar wd_1121 wd_1120 rfl [] rfl rfl rfl rfl hl.1 rfl d_JLat_indexOf_33 ⟨Nat.zero_le _, Nat.zero_le _⟩ rfl (fun H locs hS hP hD => ?_)
      obtain rfl := Option.some.inj hf
      exact gx_ri S hr hlk hS hP hD d_JLat_indexOf_36
    ·
      have hf := gx_ifn h hf
      refine lv_iconst (v := (-1)) S.1 S.2.1 d_JLat_indexOf_27 (by decide) ?_
      obtain rfl := Option.some.inj hf
      exact gx_ri S hr hlk hS hP hD d_JLat_indexOf_28
  ·
    have hf := gx_ifp h hf
    refine lv_iconst (v := (-1)) S.1 S.2.1 d_JLat_indexOf_7 (by decide) ?_
    obtain rfl := Option.some.inj hf
    exact gx_ri S hr hlk hS hP hD d_JLat_indexOf_8
theorem d_JStr_indexOf2_0 : decode b_JStr_indexOf2 0 = .ok (.aload_n 0, 1) := by decide +kernel
theorem d_JStr_indexOf2_1 : decode b_JStr_indexOf2 1 = .ok (.invokevirtual 492, 3) := by decide +kernel
theorem d_JStr_indexOf2_4 : decode b_JStr_indexOf2 4 = .ok (.ifCond .eq 19, 3) := by decide +kernel
theorem d_JStr_indexOf2_7 : decode b_JStr_indexOf2 7 = .ok (.aload_n 0, 1) := by decide +kernel
theorem d_JStr_indexOf2_8 : decode b_JStr_indexOf2 8 = .ok (.getfield 9, 3) := by decide +kernel
theorem d_JStr_indexOf2_11 : decode b_JStr_indexOf2 11 = .ok (.iload_n 1, 1) := by decide +kernel
theorem d_JStr_indexOf2_12 : decode b_JStr_indexOf2 12 = .ok (.iload_n 2, 1) := by decide +kernel
theorem d_JStr_indexOf2_13 : decode b_JStr_indexOf2 13 = .ok (.aload_n 0, 1) := by decide +kernel
theorem d_JStr_indexOf2_14 : decode b_JStr_indexOf2 14 = .ok (.invokevirtual 505, 3) := by decide +kernel
theorem d_JStr_indexOf2_17 : decode b_JStr_indexOf2 17 = .ok (.invokestatic 637, 3) := by decide +kernel
theorem d_JStr_indexOf2_20 : decode b_JStr_indexOf2 20 = .ok (.goto 16, 3) := by decide +kernel
theorem d_JStr_indexOf2_23 : decode b_JStr_indexOf2 23 = .ok (.aload_n 0, 1) := by decide +kernel
theorem d_JStr_indexOf2_24 : decode b_JStr_indexOf2 24 = .ok (.getfield 9, 3) := by decide +kernel
theorem d_JStr_indexOf2_27 : decode b_JStr_indexOf2 27 = .ok (.iload_n 1, 1) := by decide +kernel
theorem d_JStr_indexOf2_28 : decode b_JStr_indexOf2 28 = .ok (.iload_n 2, 1) := by decide +kernel
theorem d_JStr_indexOf2_29 : decode b_JStr_indexOf2 29 = .ok (.aload_n 0, 1) := by decide +kernel
theorem d_JStr_indexOf2_30 : decode b_JStr_indexOf2 30 = .ok (.invokevirtual 505, 3) := by decide +kernel
theorem d_JStr_indexOf2_33 : decode b_JStr_indexOf2 33 = .ok (.invokestatic 640, 3) := by decide +kernel
theorem d_JStr_indexOf2_36 : decode b_JStr_indexOf2 36 = .ok (.ireturn, 1) := by decide +kernel
theorem cal_JStr_indexOf2 : gx_cal y_JStr_indexOf2 b_JStr_indexOf2 3 (some .int) 2 := ⟨wd_1110, wd_21, by decide +kernel⟩
def ww_JStr_indexOf2 (g : Nat → ClassId)  : va_W := []
def f_JStr_indexOf2 (o : Nat) (a1 : Int32) (a2 : Int32) : Option (Int32) := if o < 74 then (f_JStr_isLatin1 o).bind fun u1 => if u1 = 0 then (none) else (if o < 74 then if o < 74 then (f_JStr_length o).bind fun u14 => (f_JLat_indexOf o a1 a2 u14).bind fun u17 => some u17 else none else none) else none
set_option maxHeartbeats 4000000 in
set_option maxRecDepth 100000 in
theorem c_JStr_indexOf2 (l : Launch) (z : State) (D : va_G) (g : Nat → ClassId) (o : Nat) (a1 : Int32) (a2 : Int32) (r : Int32) (hf : f_JStr_indexOf2 o a1 a2 = some r) : gx_Mi l z D g y_JStr_indexOf2 b_JStr_indexOf2 3 .int ({ frames := 2, cells := 0, slots := 0, locals := 48 } : Room) [.ref (g (100 + o)), .int a1, .int a2] (ww_JStr_indexOf2 g ) (ww_JStr_indexOf2 g ) r := by
  refine gx_go (by decide +kernel) rfl ?_
  intro p e s m below meth c ls S hr hlk hnm E hP hD hl
  have hS : va_S (va_A (ww_JStr_indexOf2 g ) s.heap.size) s.heap s.heap [] := va_S.rf
  have hl : lv_has ls 3 [(0, .ref (g (100 + o))), (1, .int a1), (2, .int a2)] := hl
  have hf : (if o < 74 then (f_JStr_isLatin1 o).bind fun u1 => if u1 = 0 then (none) else (if o < 74 then if o < 74 then (f_JStr_length o).bind fun u14 => (f_JLat_indexOf o a1 a2 u14).bind fun u17 => some u17 else none else none) else none) = some r := hf
  refine lv_aload_n S.1 S.2.1 d_JStr_indexOf2_0 rfl (lv_at hl 0 rfl) ?_
  obtain ⟨hk1z, hf⟩ := gx_chk hf
  obtain ⟨u1, hc1, hf⟩ := gx_bnd hf
  refine gx_Vi (ws2 := (ww_JStr_indexOf2 g )) S E hS hP hD (c_JStr_isLatin1 l z D g o u1 hc1) cal_JStr_isLatin1 wd_445 wd_446 wd_444 rfl [] rfl rfl rfl (gx_rcO (gx_stO E hk1z) hS) rfl hl.1 rfl d_JStr_indexOf2_1 ⟨Nat.zero_le _, Nat.zero_le _⟩ rfl (fun H locs hS hP hD => ?_)
  refine lv_if_eq (tgt := 23) S.1 S.2.1 d_JStr_indexOf2_4 (by decide) (fun h => ?_) (fun h => ?_)
  ·
    have hf := gx_ifp h hf
    cases hf
  ·
    have hf := gx_ifn h hf
    refine lv_aload_n S.1 S.2.1 d_JStr_indexOf2_7 rfl (lv_at hl 0 rfl) ?_
    obtain ⟨hsm, hf⟩ := gx_chk hf
    refine vk_getf (v := .ref (g (300 + o))) S.1 S.2.1 (gx_stV E hsm) hS S.2.2.2.1 (S.2.2.2.2 _ wd_1844) (fun _ h => h) d_JStr_indexOf2_8 ?_
    refine lv_iload_n S.1 S.2.1 d_JStr_indexOf2_11 rfl (lv_at hl 1 rfl) ?_
    refine lv_iload_n S.1 S.2.1 d_JStr_indexOf2_12 rfl (lv_at hl 2 rfl) ?_
    refine lv_aload_n S.1 S.2.1 d_JStr_indexOf2_13 rfl (lv_at hl 0 rfl) ?_
    obtain ⟨hk14z, hf⟩ := gx_chk hf
    obtain ⟨u14, hc14, hf⟩ := gx_bnd hf
    refine gx_Vi (ws2 := (ww_JStr_indexOf2 g )) S E hS hP hD (c_JStr_length l z D g o u14 hc14) cal_JStr_length wd_431 wd_432 wd_1111 rfl [] rfl rfl rfl (gx_rcO (gx_stO E hk14z) hS) rfl hl.1 rfl d_JStr_indexOf2_14 ⟨Nat.zero_le _, Nat.zero_le _⟩ rfl (fun H locs hS hP hD => ?_)
    obtain ⟨u17, hc17, hf⟩ := gx_bnd hf
    refine gx_Si (ws2 := (ww_JStr_indexOf2 g )) S E hS hP hD (c_JLat_indexOf l z D g o a1 a2 u14 u17 hc17) cal_JLat_indexOf wd_1113 wd_1112 rfl [] rfl rfl rfl rfl hl.1 rfl d_JStr_indexOf2_17 ⟨Nat.zero_le _, Nat.zero_le _⟩ rfl (fun H locs hS hP hD => ?_)
    refine lv_goto (tgt := 36) S.1 S.2.1 d_JStr_indexOf2_20 (by decide) ?_
    obtain rfl := Option.some.inj hf
    exact gx_ri S hr hlk hS hP hD d_JStr_indexOf2_36
theorem d_JStr_indexOf_0 : decode b_JStr_indexOf 0 = .ok (.aload_n 0, 1) := by decide +kernel
theorem d_JStr_indexOf_1 : decode b_JStr_indexOf 1 = .ok (.iload_n 1, 1) := by decide +kernel
theorem d_JStr_indexOf_2 : decode b_JStr_indexOf 2 = .ok (.iconst 0, 1) := by decide +kernel
theorem d_JStr_indexOf_3 : decode b_JStr_indexOf 3 = .ok (.invokevirtual 633, 3) := by decide +kernel
theorem d_JStr_indexOf_6 : decode b_JStr_indexOf 6 = .ok (.ireturn, 1) := by decide +kernel
theorem cal_JStr_indexOf : gx_cal y_JStr_indexOf b_JStr_indexOf 2 (some .int) 1 := ⟨wd_1106, wd_21, by decide +kernel⟩
def ww_JStr_indexOf (g : Nat → ClassId)  : va_W := []
def f_JStr_indexOf (o : Nat) (a1 : Int32) : Option (Int32) := if o < 74 then (f_JStr_indexOf2 o a1 (0 : Int32)).bind fun u3 => some u3 else none
set_option maxHeartbeats 4000000 in
set_option maxRecDepth 100000 in
theorem c_JStr_indexOf (l : Launch) (z : State) (D : va_G) (g : Nat → ClassId) (o : Nat) (a1 : Int32) (r : Int32) (hf : f_JStr_indexOf o a1 = some r) : gx_Mi l z D g y_JStr_indexOf b_JStr_indexOf 2 .int ({ frames := 3, cells := 0, slots := 0, locals := 70 } : Room) [.ref (g (100 + o)), .int a1] (ww_JStr_indexOf g ) (ww_JStr_indexOf g ) r := by
  refine gx_go (by decide +kernel) rfl ?_
  intro p e s m below meth c ls S hr hlk hnm E hP hD hl
  have hS : va_S (va_A (ww_JStr_indexOf g ) s.heap.size) s.heap s.heap [] := va_S.rf
  have hl : lv_has ls 2 [(0, .ref (g (100 + o))), (1, .int a1)] := hl
  have hf : (if o < 74 then (f_JStr_indexOf2 o a1 (0 : Int32)).bind fun u3 => some u3 else none) = some r := hf
  refine lv_aload_n S.1 S.2.1 d_JStr_indexOf_0 rfl (lv_at hl 0 rfl) ?_
  refine lv_iload_n S.1 S.2.1 d_JStr_indexOf_1 rfl (lv_at hl 1 rfl) ?_
  refine lv_iconst (v := 0) S.1 S.2.1 d_JStr_indexOf_2 (by decide) ?_
  obtain ⟨hk3z, hf⟩ := gx_chk hf
  obtain ⟨u3, hc3, hf⟩ := gx_bnd hf
  refine gx_Vi (ws2 := (ww_JStr_indexOf g )) S E hS hP hD (c_JStr_indexOf2 l z D g o a1 (0 : Int32) u3 hc3) cal_JStr_indexOf2 wd_1108 wd_1109 wd_1107 rfl [] rfl rfl rfl (gx_rcO (gx_stO E hk3z) hS) rfl hl.1 rfl d_JStr_indexOf_3 ⟨Nat.zero_le _, Nat.zero_le _⟩ rfl (fun H locs hS hP hD => ?_)
  obtain rfl := Option.some.inj hf
  exact gx_ri S hr hlk hS hP hD d_JStr_indexOf_6
