theorem d_JMath_max_0 : decode b_JMath_max 0 = .ok (.iload_n 0, 1) := by decide +kernel
theorem d_JMath_max_1 : decode b_JMath_max 1 = .ok (.iload_n 1, 1) := by decide +kernel
theorem d_JMath_max_2 : decode b_JMath_max 2 = .ok (.if_icmp .lt 7, 3) := by decide +kernel
theorem d_JMath_max_5 : decode b_JMath_max 5 = .ok (.iload_n 0, 1) := by decide +kernel
theorem d_JMath_max_6 : decode b_JMath_max 6 = .ok (.goto 4, 3) := by decide +kernel
theorem d_JMath_max_9 : decode b_JMath_max 9 = .ok (.iload_n 1, 1) := by decide +kernel
theorem d_JMath_max_10 : decode b_JMath_max 10 = .ok (.ireturn, 1) := by decide +kernel
theorem cal_JMath_max : gx_cal y_JMath_max b_JMath_max 2 (some .int) 2 := ⟨wd_412, wd_20, by decide +kernel⟩
def ww_JMath_max (g : Nat → ClassId)  : va_W := []
def f_JMath_max (a1 : Int32) (a2 : Int32) : Option (Int32) := if a1 < a2 then (some a2) else (some a1)
set_option maxHeartbeats 4000000 in
set_option maxRecDepth 100000 in
theorem c_JMath_max (l : Launch) (z : State) (D : va_G) (g : Nat → ClassId) (a1 : Int32) (a2 : Int32) (r : Int32) (hf : f_JMath_max a1 a2 = some r) : gx_Mi l z D g y_JMath_max b_JMath_max 2 .int ({ frames := 0, cells := 0, slots := 0, locals := 0 } : Room) [.int a1, .int a2] (ww_JMath_max g ) (ww_JMath_max g ) r := by
  refine gx_go (by decide +kernel) rfl ?_
  intro p e s m below meth c ls S hr hlk hnm E hP hD hl
  have hS : va_S (va_A (ww_JMath_max g ) s.heap.size) s.heap s.heap [] := va_S.rf
  have hl : lv_has ls 2 [(0, .int a1), (1, .int a2)] := hl
  have hf : (if a1 < a2 then (some a2) else (some a1)) = some r := hf
  refine lv_iload_n S.1 S.2.1 d_JMath_max_0 rfl (lv_at hl 0 rfl) ?_
  refine lv_iload_n S.1 S.2.1 d_JMath_max_1 rfl (lv_at hl 1 rfl) ?_
  refine lv_icmp_lt (tgt := 9) S.1 S.2.1 d_JMath_max_2 (by decide) (fun h => ?_) (fun h => ?_)
  ·
    have hf := gx_ifp h hf
    refine lv_iload_n S.1 S.2.1 d_JMath_max_9 rfl (lv_at hl 1 rfl) ?_
    obtain rfl := Option.some.inj hf
    exact gx_ri S hr hlk hS hP hD d_JMath_max_10
  ·
    have hf := gx_ifn h hf
    refine lv_iload_n S.1 S.2.1 d_JMath_max_5 rfl (lv_at hl 0 rfl) ?_
    refine lv_goto (tgt := 10) S.1 S.2.1 d_JMath_max_6 (by decide) ?_
    obtain rfl := Option.some.inj hf
    exact gx_ri S hr hlk hS hP hD d_JMath_max_10
theorem d_JMath_min_0 : decode b_JMath_min 0 = .ok (.iload_n 0, 1) := by decide +kernel
theorem d_JMath_min_1 : decode b_JMath_min 1 = .ok (.iload_n 1, 1) := by decide +kernel
theorem d_JMath_min_2 : decode b_JMath_min 2 = .ok (.if_icmp .gt 7, 3) := by decide +kernel
theorem d_JMath_min_5 : decode b_JMath_min 5 = .ok (.iload_n 0, 1) := by decide +kernel
theorem d_JMath_min_6 : decode b_JMath_min 6 = .ok (.goto 4, 3) := by decide +kernel
theorem d_JMath_min_9 : decode b_JMath_min 9 = .ok (.iload_n 1, 1) := by decide +kernel
theorem d_JMath_min_10 : decode b_JMath_min 10 = .ok (.ireturn, 1) := by decide +kernel
theorem cal_JMath_min : gx_cal y_JMath_min b_JMath_min 2 (some .int) 2 := ⟨wd_420, wd_20, by decide +kernel⟩
def ww_JMath_min (g : Nat → ClassId)  : va_W := []
def f_JMath_min (a1 : Int32) (a2 : Int32) : Option (Int32) := if a2 < a1 then (some a2) else (some a1)
set_option maxHeartbeats 4000000 in
set_option maxRecDepth 100000 in
theorem c_JMath_min (l : Launch) (z : State) (D : va_G) (g : Nat → ClassId) (a1 : Int32) (a2 : Int32) (r : Int32) (hf : f_JMath_min a1 a2 = some r) : gx_Mi l z D g y_JMath_min b_JMath_min 2 .int ({ frames := 0, cells := 0, slots := 0, locals := 0 } : Room) [.int a1, .int a2] (ww_JMath_min g ) (ww_JMath_min g ) r := by
  refine gx_go (by decide +kernel) rfl ?_
  intro p e s m below meth c ls S hr hlk hnm E hP hD hl
  have hS : va_S (va_A (ww_JMath_min g ) s.heap.size) s.heap s.heap [] := va_S.rf
  have hl : lv_has ls 2 [(0, .int a1), (1, .int a2)] := hl
  have hf : (if a2 < a1 then (some a2) else (some a1)) = some r := hf
  refine lv_iload_n S.1 S.2.1 d_JMath_min_0 rfl (lv_at hl 0 rfl) ?_
  refine lv_iload_n S.1 S.2.1 d_JMath_min_1 rfl (lv_at hl 1 rfl) ?_
  refine lv_icmp_gt (tgt := 9) S.1 S.2.1 d_JMath_min_2 (by decide) (fun h => ?_) (fun h => ?_)
  ·
    have hf := gx_ifp h hf
    refine lv_iload_n S.1 S.2.1 d_JMath_min_9 rfl (lv_at hl 1 rfl) ?_
    obtain rfl := Option.some.inj hf
    exact gx_ri S hr hlk hS hP hD d_JMath_min_10
  ·
    have hf := gx_ifn h hf
    refine lv_iload_n S.1 S.2.1 d_JMath_min_5 rfl (lv_at hl 0 rfl) ?_
    refine lv_goto (tgt := 10) S.1 S.2.1 d_JMath_min_6 (by decide) ?_
    obtain rfl := Option.some.inj hf
    exact gx_ri S hr hlk hS hP hD d_JMath_min_10
theorem d_JMath_abs_0 : decode b_JMath_abs 0 = .ok (.iload_n 0, 1) := by decide +kernel
theorem d_JMath_abs_1 : decode b_JMath_abs 1 = .ok (.ifCond .ge 8, 3) := by decide +kernel
theorem d_JMath_abs_4 : decode b_JMath_abs 4 = .ok (.iload_n 0, 1) := by decide +kernel
theorem d_JMath_abs_5 : decode b_JMath_abs 5 = .ok (.ineg, 1) := by decide +kernel
theorem d_JMath_abs_6 : decode b_JMath_abs 6 = .ok (.goto 4, 3) := by decide +kernel
theorem d_JMath_abs_9 : decode b_JMath_abs 9 = .ok (.iload_n 0, 1) := by decide +kernel
theorem d_JMath_abs_10 : decode b_JMath_abs 10 = .ok (.ireturn, 1) := by decide +kernel
theorem cal_JMath_abs : gx_cal y_JMath_abs b_JMath_abs 1 (some .int) 1 := ⟨wd_614, wd_20, by decide +kernel⟩
def ww_JMath_abs (g : Nat → ClassId)  : va_W := []
def f_JMath_abs (a1 : Int32) : Option (Int32) := if 0 ≤ a1 then (some a1) else (some (-a1))
set_option maxHeartbeats 4000000 in
set_option maxRecDepth 100000 in
theorem c_JMath_abs (l : Launch) (z : State) (D : va_G) (g : Nat → ClassId) (a1 : Int32) (r : Int32) (hf : f_JMath_abs a1 = some r) : gx_Mi l z D g y_JMath_abs b_JMath_abs 1 .int ({ frames := 0, cells := 0, slots := 0, locals := 0 } : Room) [.int a1] (ww_JMath_abs g ) (ww_JMath_abs g ) r := by
  refine gx_go (by decide +kernel) rfl ?_
  intro p e s m below meth c ls S hr hlk hnm E hP hD hl
  have hS : va_S (va_A (ww_JMath_abs g ) s.heap.size) s.heap s.heap [] := va_S.rf
  have hl : lv_has ls 1 [(0, .int a1)] := hl
  have hf : (if 0 ≤ a1 then (some a1) else (some (-a1))) = some r := hf
  refine lv_iload_n S.1 S.2.1 d_JMath_abs_0 rfl (lv_at hl 0 rfl) ?_
  refine lv_if_ge (tgt := 9) S.1 S.2.1 d_JMath_abs_1 (by decide) (fun h => ?_) (fun h => ?_)
  ·
    have hf := gx_ifp h hf
    refine lv_iload_n S.1 S.2.1 d_JMath_abs_9 rfl (lv_at hl 0 rfl) ?_
    obtain rfl := Option.some.inj hf
    exact gx_ri S hr hlk hS hP hD d_JMath_abs_10
  ·
    have hf := gx_ifn h hf
    refine lv_iload_n S.1 S.2.1 d_JMath_abs_4 rfl (lv_at hl 0 rfl) ?_
    refine lv_ineg S.1 S.2.1 d_JMath_abs_5 ?_
    refine lv_goto (tgt := 10) S.1 S.2.1 d_JMath_abs_6 (by decide) ?_
    obtain rfl := Option.some.inj hf
    exact gx_ri S hr hlk hS hP hD d_JMath_abs_10
theorem d_JInt_numberOfLeadingZeros_0 : decode b_JInt_numberOfLeadingZeros 0 = .ok (.iload_n 0, 1) := by decide +kernel
theorem d_JInt_numberOfLeadingZeros_1 : decode b_JInt_numberOfLeadingZeros 1 = .ok (.ifCond .gt 14, 3) := by decide +kernel
theorem d_JInt_numberOfLeadingZeros_4 : decode b_JInt_numberOfLeadingZeros 4 = .ok (.iload_n 0, 1) := by decide +kernel
theorem d_JInt_numberOfLeadingZeros_5 : decode b_JInt_numberOfLeadingZeros 5 = .ok (.ifCond .ne 8, 3) := by decide +kernel
theorem d_JInt_numberOfLeadingZeros_8 : decode b_JInt_numberOfLeadingZeros 8 = .ok (.bipush 32, 2) := by decide +kernel
theorem d_JInt_numberOfLeadingZeros_10 : decode b_JInt_numberOfLeadingZeros 10 = .ok (.goto 4, 3) := by decide +kernel
theorem d_JInt_numberOfLeadingZeros_13 : decode b_JInt_numberOfLeadingZeros 13 = .ok (.iconst 0, 1) := by decide +kernel
theorem d_JInt_numberOfLeadingZeros_14 : decode b_JInt_numberOfLeadingZeros 14 = .ok (.ireturn, 1) := by decide +kernel
theorem d_JInt_numberOfLeadingZeros_15 : decode b_JInt_numberOfLeadingZeros 15 = .ok (.bipush 31, 2) := by decide +kernel
theorem d_JInt_numberOfLeadingZeros_17 : decode b_JInt_numberOfLeadingZeros 17 = .ok (.istore_n 1, 1) := by decide +kernel
theorem d_JInt_numberOfLeadingZeros_18 : decode b_JInt_numberOfLeadingZeros 18 = .ok (.iload_n 0, 1) := by decide +kernel
theorem d_JInt_numberOfLeadingZeros_19 : decode b_JInt_numberOfLeadingZeros 19 = .ok (.ldc_w 264, 3) := by decide +kernel
theorem d_JInt_numberOfLeadingZeros_22 : decode b_JInt_numberOfLeadingZeros 22 = .ok (.if_icmp .lt 11, 3) := by decide +kernel
theorem d_JInt_numberOfLeadingZeros_25 : decode b_JInt_numberOfLeadingZeros 25 = .ok (.iinc 1 (-16), 3) := by decide +kernel
theorem d_JInt_numberOfLeadingZeros_28 : decode b_JInt_numberOfLeadingZeros 28 = .ok (.iload_n 0, 1) := by decide +kernel
theorem d_JInt_numberOfLeadingZeros_29 : decode b_JInt_numberOfLeadingZeros 29 = .ok (.bipush 16, 2) := by decide +kernel
theorem d_JInt_numberOfLeadingZeros_31 : decode b_JInt_numberOfLeadingZeros 31 = .ok (.iushr, 1) := by decide +kernel
theorem d_JInt_numberOfLeadingZeros_32 : decode b_JInt_numberOfLeadingZeros 32 = .ok (.istore_n 0, 1) := by decide +kernel
theorem d_JInt_numberOfLeadingZeros_33 : decode b_JInt_numberOfLeadingZeros 33 = .ok (.iload_n 0, 1) := by decide +kernel
theorem d_JInt_numberOfLeadingZeros_34 : decode b_JInt_numberOfLeadingZeros 34 = .ok (.sipush 256, 3) := by decide +kernel
theorem d_JInt_numberOfLeadingZeros_37 : decode b_JInt_numberOfLeadingZeros 37 = .ok (.if_icmp .lt 11, 3) := by decide +kernel
theorem d_JInt_numberOfLeadingZeros_40 : decode b_JInt_numberOfLeadingZeros 40 = .ok (.iinc 1 (-8), 3) := by decide +kernel
theorem d_JInt_numberOfLeadingZeros_43 : decode b_JInt_numberOfLeadingZeros 43 = .ok (.iload_n 0, 1) := by decide +kernel
theorem d_JInt_numberOfLeadingZeros_44 : decode b_JInt_numberOfLeadingZeros 44 = .ok (.bipush 8, 2) := by decide +kernel
theorem d_JInt_numberOfLeadingZeros_46 : decode b_JInt_numberOfLeadingZeros 46 = .ok (.iushr, 1) := by decide +kernel
theorem d_JInt_numberOfLeadingZeros_47 : decode b_JInt_numberOfLeadingZeros 47 = .ok (.istore_n 0, 1) := by decide +kernel
theorem d_JInt_numberOfLeadingZeros_48 : decode b_JInt_numberOfLeadingZeros 48 = .ok (.iload_n 0, 1) := by decide +kernel
theorem d_JInt_numberOfLeadingZeros_49 : decode b_JInt_numberOfLeadingZeros 49 = .ok (.bipush 16, 2) := by decide +kernel
theorem d_JInt_numberOfLeadingZeros_51 : decode b_JInt_numberOfLeadingZeros 51 = .ok (.if_icmp .lt 10, 3) := by decide +kernel
theorem d_JInt_numberOfLeadingZeros_54 : decode b_JInt_numberOfLeadingZeros 54 = .ok (.iinc 1 (-4), 3) := by decide +kernel
theorem d_JInt_numberOfLeadingZeros_57 : decode b_JInt_numberOfLeadingZeros 57 = .ok (.iload_n 0, 1) := by decide +kernel
theorem d_JInt_numberOfLeadingZeros_58 : decode b_JInt_numberOfLeadingZeros 58 = .ok (.iconst 4, 1) := by decide +kernel
theorem d_JInt_numberOfLeadingZeros_59 : decode b_JInt_numberOfLeadingZeros 59 = .ok (.iushr, 1) := by decide +kernel
theorem d_JInt_numberOfLeadingZeros_60 : decode b_JInt_numberOfLeadingZeros 60 = .ok (.istore_n 0, 1) := by decide +kernel
theorem d_JInt_numberOfLeadingZeros_61 : decode b_JInt_numberOfLeadingZeros 61 = .ok (.iload_n 0, 1) := by decide +kernel
theorem d_JInt_numberOfLeadingZeros_62 : decode b_JInt_numberOfLeadingZeros 62 = .ok (.iconst 4, 1) := by decide +kernel
theorem d_JInt_numberOfLeadingZeros_63 : decode b_JInt_numberOfLeadingZeros 63 = .ok (.if_icmp .lt 10, 3) := by decide +kernel
theorem d_JInt_numberOfLeadingZeros_66 : decode b_JInt_numberOfLeadingZeros 66 = .ok (.iinc 1 (-2), 3) := by decide +kernel
theorem d_JInt_numberOfLeadingZeros_69 : decode b_JInt_numberOfLeadingZeros 69 = .ok (.iload_n 0, 1) := by decide +kernel
theorem d_JInt_numberOfLeadingZeros_70 : decode b_JInt_numberOfLeadingZeros 70 = .ok (.iconst 2, 1) := by decide +kernel
theorem d_JInt_numberOfLeadingZeros_71 : decode b_JInt_numberOfLeadingZeros 71 = .ok (.iushr, 1) := by decide +kernel
theorem d_JInt_numberOfLeadingZeros_72 : decode b_JInt_numberOfLeadingZeros 72 = .ok (.istore_n 0, 1) := by decide +kernel
theorem d_JInt_numberOfLeadingZeros_73 : decode b_JInt_numberOfLeadingZeros 73 = .ok (.iload_n 1, 1) := by decide +kernel
theorem d_JInt_numberOfLeadingZeros_74 : decode b_JInt_numberOfLeadingZeros 74 = .ok (.iload_n 0, 1) := by decide +kernel
theorem d_JInt_numberOfLeadingZeros_75 : decode b_JInt_numberOfLeadingZeros 75 = .ok (.iconst 1, 1) := by decide +kernel
theorem d_JInt_numberOfLeadingZeros_76 : decode b_JInt_numberOfLeadingZeros 76 = .ok (.iushr, 1) := by decide +kernel
theorem d_JInt_numberOfLeadingZeros_77 : decode b_JInt_numberOfLeadingZeros 77 = .ok (.isub, 1) := by decide +kernel
theorem d_JInt_numberOfLeadingZeros_78 : decode b_JInt_numberOfLeadingZeros 78 = .ok (.ireturn, 1) := by decide +kernel
theorem cal_JInt_numberOfLeadingZeros : gx_cal y_JInt_numberOfLeadingZeros b_JInt_numberOfLeadingZeros 2 (some .int) 1 := ⟨wd_494, wd_26, by decide +kernel⟩
def ww_JInt_numberOfLeadingZeros (g : Nat → ClassId)  : va_W := []
def f_JInt_numberOfLeadingZeros_73 (v0 : Int32) (v1 : Int32) : Option (Int32) := some (v1 - ((v0.toUInt32 >>> ((1 : Int32).toUInt32 &&& Int32.toUInt32 31)).toInt32))
def f_JInt_numberOfLeadingZeros_61 (v0 : Int32) (v1 : Int32) : Option (Int32) := if v0 < (4 : Int32) then (f_JInt_numberOfLeadingZeros_73 v0 v1) else (f_JInt_numberOfLeadingZeros_73 ((v0.toUInt32 >>> ((2 : Int32).toUInt32 &&& Int32.toUInt32 31)).toInt32) (v1 + (-2)))
def f_JInt_numberOfLeadingZeros_48 (v0 : Int32) (v1 : Int32) : Option (Int32) := if v0 < (16 : Int32) then (f_JInt_numberOfLeadingZeros_61 v0 v1) else (f_JInt_numberOfLeadingZeros_61 ((v0.toUInt32 >>> ((4 : Int32).toUInt32 &&& Int32.toUInt32 31)).toInt32) (v1 + (-4)))
def f_JInt_numberOfLeadingZeros_33 (v0 : Int32) (v1 : Int32) : Option (Int32) := if v0 < (256 : Int32) then (f_JInt_numberOfLeadingZeros_48 v0 v1) else (f_JInt_numberOfLeadingZeros_48 ((v0.toUInt32 >>> ((8 : Int32).toUInt32 &&& Int32.toUInt32 31)).toInt32) (v1 + (-8)))
def f_JInt_numberOfLeadingZeros (a1 : Int32) : Option (Int32) := if 0 < a1 then (if a1 < (65536 : Int32) then (f_JInt_numberOfLeadingZeros_33 a1 (31 : Int32)) else (f_JInt_numberOfLeadingZeros_33 ((a1.toUInt32 >>> ((16 : Int32).toUInt32 &&& Int32.toUInt32 31)).toInt32) ((31 : Int32) + (-16)))) else (if a1 = 0 then (some (32 : Int32)) else (some (0 : Int32)))
set_option maxHeartbeats 4000000 in
set_option maxRecDepth 100000 in
theorem c_JInt_numberOfLeadingZeros (l : Launch) (z : State) (D : va_G) (g : Nat → ClassId) (a1 : Int32) (r : Int32) (hf : f_JInt_numberOfLeadingZeros a1 = some r) : gx_Mi l z D g y_JInt_numberOfLeadingZeros b_JInt_numberOfLeadingZeros 2 .int ({ frames := 0, cells := 0, slots := 0, locals := 0 } : Room) [.int a1] (ww_JInt_numberOfLeadingZeros g ) (ww_JInt_numberOfLeadingZeros g ) r := by
  refine gx_go (by decide +kernel) rfl ?_
  intro p e s m below meth c ls S hr hlk hnm E hP hD hl
  have hS : va_S (va_A (ww_JInt_numberOfLeadingZeros g ) s.heap.size) s.heap s.heap [] := va_S.rf
  have hl : lv_has ls 2 [(0, .int a1)] := hl
  have c_73 : ∀ (v0 : Int32) (v1 : Int32) (ls : Array Slot) (H : Heap) (locs : List Loc), lv_has ls 2 [(0, .int v0), (1, .int v1)] → va_S (va_A (ww_JInt_numberOfLeadingZeros g ) s.heap.size) s.heap H locs → va_P D vwC (ww_JInt_numberOfLeadingZeros g ) H → va_D (va_A (ww_JInt_numberOfLeadingZeros g ) s.heap.size) (ww_JInt_numberOfLeadingZeros g ) → (f_JInt_numberOfLeadingZeros_73 v0 v1) = some r → W p l e ({ frames := 0, cells := 0, slots := 0, locals := 0 } : Room) s m ([.int a1] : List Value).toArray below meth c H locs 0 0 (MQ below (gx_Qi D (ww_JInt_numberOfLeadingZeros g ) (ww_JInt_numberOfLeadingZeros g ) r s.heap.size) ([.int a1] : List Value).toArray s 0 0 (va_A (ww_JInt_numberOfLeadingZeros g ) s.heap.size)) (F0 m 73 ls []) := by
    intro v0 v1 ls H locs hl hS hP hD hf
    have hf : (some (v1 - ((v0.toUInt32 >>> ((1 : Int32).toUInt32 &&& Int32.toUInt32 31)).toInt32))) = some r := hf
    refine lv_iload_n S.1 S.2.1 d_JInt_numberOfLeadingZeros_73 rfl (lv_at hl 1 rfl) ?_
    refine lv_iload_n S.1 S.2.1 d_JInt_numberOfLeadingZeros_74 rfl (lv_at hl 0 rfl) ?_
    refine lv_iconst (v := 1) S.1 S.2.1 d_JInt_numberOfLeadingZeros_75 (by decide) ?_
    refine lv_iushr S.1 S.2.1 d_JInt_numberOfLeadingZeros_76 rfl ?_
    refine lv_isub S.1 S.2.1 d_JInt_numberOfLeadingZeros_77 ?_
    obtain rfl := Option.some.inj hf
    exact gx_ri S hr hlk hS hP hD d_JInt_numberOfLeadingZeros_78
  have c_61 : ∀ (v0 : Int32) (v1 : Int32) (ls : Array Slot) (H : Heap) (locs : List Loc), lv_has ls 2 [(0, .int v0), (1, .int v1)] → va_S (va_A (ww_JInt_numberOfLeadingZeros g ) s.heap.size) s.heap H locs → va_P D vwC (ww_JInt_numberOfLeadingZeros g ) H → va_D (va_A (ww_JInt_numberOfLeadingZeros g ) s.heap.size) (ww_JInt_numberOfLeadingZeros g ) → (f_JInt_numberOfLeadingZeros_61 v0 v1) = some r → W p l e ({ frames := 0, cells := 0, slots := 0, locals := 0 } : Room) s m ([.int a1] : List Value).toArray below meth c H locs 0 0 (MQ below (gx_Qi D (ww_JInt_numberOfLeadingZeros g ) (ww_JInt_numberOfLeadingZeros g ) r s.heap.size) ([.int a1] : List Value).toArray s 0 0 (va_A (ww_JInt_numberOfLeadingZeros g ) s.heap.size)) (F0 m 61 ls []) := by
    intro v0 v1 ls H locs hl hS hP hD hf
    have hf : (if v0 < (4 : Int32) then (f_JInt_numberOfLeadingZeros_73 v0 v1) else (f_JInt_numberOfLeadingZeros_73 ((v0.toUInt32 >>> ((2 : Int32).toUInt32 &&& Int32.toUInt32 31)).toInt32) (v1 + (-2)))) = some r := hf
    refine lv_iload_n S.1 S.2.1 d_JInt_numberOfLeadingZeros_61 rfl (lv_at hl 0 rfl) ?_
    refine lv_iconst (v := 4) S.1 S.2.1 d_JInt_numberOfLeadingZeros_62 (by decide) ?_
    refine lv_icmp_lt (tgt := 73) S.1 S.2.1 d_JInt_numberOfLeadingZeros_63 (by decide) (fun h => ?_) (fun h => ?_)
    ·
      have hf := gx_ifp h hf
      exact c_73 v0 v1 ls _ _ (lv_sub hl [0, 1] rfl) hS hP hD hf
    ·
      have hf := gx_ifn h hf
      refine lv_iinc (v := v1 + (-2)) (lv' := [(1, .int (v1 + (-2))), (0, .int v0)]) S.1 S.2.1 d_JInt_numberOfLeadingZeros_66 hl (k := 1) rfl rfl (by decide) rfl (fun ls hl => ?_)
      refine lv_iload_n S.1 S.2.1 d_JInt_numberOfLeadingZeros_69 rfl (lv_at hl 1 rfl) ?_
      refine lv_iconst (v := 2) S.1 S.2.1 d_JInt_numberOfLeadingZeros_70 (by decide) ?_
      refine lv_iushr S.1 S.2.1 d_JInt_numberOfLeadingZeros_71 rfl ?_
      refine lv_istore_n (lv' := [(0, .int ((v0.toUInt32 >>> ((2 : Int32).toUInt32 &&& Int32.toUInt32 31)).toInt32)), (1, .int (v1 + (-2)))]) S.1 S.2.1 d_JInt_numberOfLeadingZeros_72 rfl hl (by decide) rfl (fun ls hl => ?_)
      exact c_73 ((v0.toUInt32 >>> ((2 : Int32).toUInt32 &&& Int32.toUInt32 31)).toInt32) (v1 + (-2)) ls _ _ (lv_sub hl [0, 1] rfl) hS hP hD hf
  have c_48 : ∀ (v0 : Int32) (v1 : Int32) (ls : Array Slot) (H : Heap) (locs : List Loc), lv_has ls 2 [(0, .int v0), (1, .int v1)] → va_S (va_A (ww_JInt_numberOfLeadingZeros g ) s.heap.size) s.heap H locs → va_P D vwC (ww_JInt_numberOfLeadingZeros g ) H → va_D (va_A (ww_JInt_numberOfLeadingZeros g ) s.heap.size) (ww_JInt_numberOfLeadingZeros g ) → (f_JInt_numberOfLeadingZeros_48 v0 v1) = some r → W p l e ({ frames := 0, cells := 0, slots := 0, locals := 0 } : Room) s m ([.int a1] : List Value).toArray below meth c H locs 0 0 (MQ below (gx_Qi D (ww_JInt_numberOfLeadingZeros g ) (ww_JInt_numberOfLeadingZeros g ) r s.heap.size) ([.int a1] : List Value).toArray s 0 0 (va_A (ww_JInt_numberOfLeadingZeros g ) s.heap.size)) (F0 m 48 ls []) := by
    intro v0 v1 ls H locs hl hS hP hD hf
    have hf : (if v0 < (16 : Int32) then (f_JInt_numberOfLeadingZeros_61 v0 v1) else (f_JInt_numberOfLeadingZeros_61 ((v0.toUInt32 >>> ((4 : Int32).toUInt32 &&& Int32.toUInt32 31)).toInt32) (v1 + (-4)))) = some r := hf
    refine lv_iload_n S.1 S.2.1 d_JInt_numberOfLeadingZeros_48 rfl (lv_at hl 0 rfl) ?_
    refine lv_bipush (v := 16) S.1 S.2.1 d_JInt_numberOfLeadingZeros_49 (by decide) ?_
    refine lv_icmp_lt (tgt := 61) S.1 S.2.1 d_JInt_numberOfLeadingZeros_51 (by decide) (fun h => ?_) (fun h => ?_)
    ·
      have hf := gx_ifp h hf
      exact c_61 v0 v1 ls _ _ (lv_sub hl [0, 1] rfl) hS hP hD hf
    ·
      have hf := gx_ifn h hf
      refine lv_iinc (v := v1 + (-4)) (lv' := [(1, .int (v1 + (-4))), (0, .int v0)]) S.1 S.2.1 d_JInt_numberOfLeadingZeros_54 hl (k := 1) rfl rfl (by decide) rfl (fun ls hl => ?_)
      refine lv_iload_n S.1 S.2.1 d_JInt_numberOfLeadingZeros_57 rfl (lv_at hl 1 rfl) ?_
      refine lv_iconst (v := 4) S.1 S.2.1 d_JInt_numberOfLeadingZeros_58 (by decide) ?_
      refine lv_iushr S.1 S.2.1 d_JInt_numberOfLeadingZeros_59 rfl ?_
      refine lv_istore_n (lv' := [(0, .int ((v0.toUInt32 >>> ((4 : Int32).toUInt32 &&& Int32.toUInt32 31)).toInt32)), (1, .int (v1 + (-4)))]) S.1 S.2.1 d_JInt_numberOfLeadingZeros_60 rfl hl (by decide) rfl (fun ls hl => ?_)
      exact c_61 ((v0.toUInt32 >>> ((4 : Int32).toUInt32 &&& Int32.toUInt32 31)).toInt32) (v1 + (-4)) ls _ _ (lv_sub hl [0, 1] rfl) hS hP hD hf
  have c_33 : ∀ (v0 : Int32) (v1 : Int32) (ls : Array Slot) (H : Heap) (locs : List Loc), lv_has ls 2 [(0, .int v0), (1, .int v1)] → va_S (va_A (ww_JInt_numberOfLeadingZeros g ) s.heap.size) s.heap H locs → va_P D vwC (ww_JInt_numberOfLeadingZeros g ) H → va_D (va_A (ww_JInt_numberOfLeadingZeros g ) s.heap.size) (ww_JInt_numberOfLeadingZeros g ) → (f_JInt_numberOfLeadingZeros_33 v0 v1) = some r → W p l e ({ frames := 0, cells := 0, slots := 0, locals := 0 } : Room) s m ([.int a1] : List Value).toArray below meth c H locs 0 0 (MQ below (gx_Qi D (ww_JInt_numberOfLeadingZeros g ) (ww_JInt_numberOfLeadingZeros g ) r s.heap.size) ([.int a1] : List Value).toArray s 0 0 (va_A (ww_JInt_numberOfLeadingZeros g ) s.heap.size)) (F0 m 33 ls []) := by
    intro v0 v1 ls H locs hl hS hP hD hf
    have hf : (if v0 < (256 : Int32) then (f_JInt_numberOfLeadingZeros_48 v0 v1) else (f_JInt_numberOfLeadingZeros_48 ((v0.toUInt32 >>> ((8 : Int32).toUInt32 &&& Int32.toUInt32 31)).toInt32) (v1 + (-8)))) = some r := hf
    refine lv_iload_n S.1 S.2.1 d_JInt_numberOfLeadingZeros_33 rfl (lv_at hl 0 rfl) ?_
    refine lv_sipush (v := 256) S.1 S.2.1 d_JInt_numberOfLeadingZeros_34 (by decide) ?_
    refine lv_icmp_lt (tgt := 48) S.1 S.2.1 d_JInt_numberOfLeadingZeros_37 (by decide) (fun h => ?_) (fun h => ?_)
    ·
      have hf := gx_ifp h hf
      exact c_48 v0 v1 ls _ _ (lv_sub hl [0, 1] rfl) hS hP hD hf
    ·
      have hf := gx_ifn h hf
      refine lv_iinc (v := v1 + (-8)) (lv' := [(1, .int (v1 + (-8))), (0, .int v0)]) S.1 S.2.1 d_JInt_numberOfLeadingZeros_40 hl (k := 1) rfl rfl (by decide) rfl (fun ls hl => ?_)
      refine lv_iload_n S.1 S.2.1 d_JInt_numberOfLeadingZeros_43 rfl (lv_at hl 1 rfl) ?_
      refine lv_bipush (v := 8) S.1 S.2.1 d_JInt_numberOfLeadingZeros_44 (by decide) ?_
      refine lv_iushr S.1 S.2.1 d_JInt_numberOfLeadingZeros_46 rfl ?_
      refine lv_istore_n (lv' := [(0, .int ((v0.toUInt32 >>> ((8 : Int32).toUInt32 &&& Int32.toUInt32 31)).toInt32)), (1, .int (v1 + (-8)))]) S.1 S.2.1 d_JInt_numberOfLeadingZeros_47 rfl hl (by decide) rfl (fun ls hl => ?_)
      exact c_48 ((v0.toUInt32 >>> ((8 : Int32).toUInt32 &&& Int32.toUInt32 31)).toInt32) (v1 + (-8)) ls _ _ (lv_sub hl [0, 1] rfl) hS hP hD hf
  have hf : (if 0 < a1 then (if a1 < (65536 : Int32) then (f_JInt_numberOfLeadingZeros_33 a1 (31 : Int32)) else (f_JInt_numberOfLeadingZeros_33 ((a1.toUInt32 >>> ((16 : Int32).toUInt32 &&& Int32.toUInt32 31)).toInt32) ((31 : Int32) + (-16)))) else (if a1 = 0 then (some (32 : Int32)) else (some (0 : Int32)))) = some r := hf
  refine lv_iload_n S.1 S.2.1 d_JInt_numberOfLeadingZeros_0 rfl (lv_at hl 0 rfl) ?_
  refine lv_if_gt (tgt := 15) S.1 S.2.1 d_JInt_numberOfLeadingZeros_1 (by decide) (fun h => ?_) (fun h => ?_)
  ·
    have hf := gx_ifp h hf
    refine lv_bipush (v := 31) S.1 S.2.1 d_JInt_numberOfLeadingZeros_15 (by decide) ?_
    refine lv_istore_n (lv' := [(1, .int (31 : Int32)), (0, .int a1)]) S.1 S.2.1 d_JInt_numberOfLeadingZeros_17 rfl hl (by decide) rfl (fun ls hl => ?_)
    refine lv_iload_n S.1 S.2.1 d_JInt_numberOfLeadingZeros_18 rfl (lv_at hl 1 rfl) ?_
    refine lv_ldcw (v := 65536) S.1 S.2.1 S.2.2.2.1 (S.2.2.2.2 _ wd_495) d_JInt_numberOfLeadingZeros_19 ?_
    refine lv_icmp_lt (tgt := 33) S.1 S.2.1 d_JInt_numberOfLeadingZeros_22 (by decide) (fun h => ?_) (fun h => ?_)
    ·
      have hf := gx_ifp h hf
      exact c_33 a1 (31 : Int32) ls _ _ (lv_sub hl [1, 0] rfl) hS hP hD hf
    ·
      have hf := gx_ifn h hf
      refine lv_iinc (v := (31 : Int32) + (-16)) (lv' := [(1, .int ((31 : Int32) + (-16))), (0, .int a1)]) S.1 S.2.1 d_JInt_numberOfLeadingZeros_25 hl (k := 0) rfl rfl (by decide) rfl (fun ls hl => ?_)
      refine lv_iload_n S.1 S.2.1 d_JInt_numberOfLeadingZeros_28 rfl (lv_at hl 1 rfl) ?_
      refine lv_bipush (v := 16) S.1 S.2.1 d_JInt_numberOfLeadingZeros_29 (by decide) ?_
      refine lv_iushr S.1 S.2.1 d_JInt_numberOfLeadingZeros_31 rfl ?_
      refine lv_istore_n (lv' := [(0, .int ((a1.toUInt32 >>> ((16 : Int32).toUInt32 &&& Int32.toUInt32 31)).toInt32)), (1, .int ((31 : Int32) + (-16)))]) S.1 S.2.1 d_JInt_numberOfLeadingZeros_32 rfl hl (by decide) rfl (fun ls hl => ?_)
      exact c_33 ((a1.toUInt32 >>> ((16 : Int32).toUInt32 &&& Int32.toUInt32 31)).toInt32) ((31 : Int32) + (-16)) ls _ _ (lv_sub hl [0, 1] rfl) hS hP hD hf
  ·
    have hf := gx_ifn h hf
    refine lv_iload_n S.1 S.2.1 d_JInt_numberOfLeadingZeros_4 rfl (lv_at hl 0 rfl) ?_
    refine lv_if_ne (tgt := 13) S.1 S.2.1 d_JInt_numberOfLeadingZeros_5 (by decide) (fun h => ?_) (fun h => ?_)
    ·
      have hf := gx_ifn h hf
      refine lv_iconst (v := 0) S.1 S.2.1 d_JInt_numberOfLeadingZeros_13 (by decide) ?_
      obtain rfl := Option.some.inj hf
      exact gx_ri S hr hlk hS hP hD d_JInt_numberOfLeadingZeros_14
    ·
      have hf := gx_ifp h hf
      refine lv_bipush (v := 32) S.1 S.2.1 d_JInt_numberOfLeadingZeros_8 (by decide) ?_
      refine lv_goto (tgt := 14) S.1 S.2.1 d_JInt_numberOfLeadingZeros_10 (by decide) ?_
      obtain rfl := Option.some.inj hf
      exact gx_ri S hr hlk hS hP hD d_JInt_numberOfLeadingZeros_14
theorem d_JInt_numberOfTrailingZeros_0 : decode b_JInt_numberOfTrailingZeros 0 = .ok (.iload_n 0, 1) := by decide +kernel
theorem d_JInt_numberOfTrailingZeros_1 : decode b_JInt_numberOfTrailingZeros 1 = .ok (.iconst (-1), 1) := by decide +kernel
theorem d_JInt_numberOfTrailingZeros_2 : decode b_JInt_numberOfTrailingZeros 2 = .ok (.ixor, 1) := by decide +kernel
theorem d_JInt_numberOfTrailingZeros_3 : decode b_JInt_numberOfTrailingZeros 3 = .ok (.iload_n 0, 1) := by decide +kernel
theorem d_JInt_numberOfTrailingZeros_4 : decode b_JInt_numberOfTrailingZeros 4 = .ok (.iconst 1, 1) := by decide +kernel
theorem d_JInt_numberOfTrailingZeros_5 : decode b_JInt_numberOfTrailingZeros 5 = .ok (.isub, 1) := by decide +kernel
theorem d_JInt_numberOfTrailingZeros_6 : decode b_JInt_numberOfTrailingZeros 6 = .ok (.iand, 1) := by decide +kernel
theorem d_JInt_numberOfTrailingZeros_7 : decode b_JInt_numberOfTrailingZeros 7 = .ok (.istore_n 0, 1) := by decide +kernel
theorem d_JInt_numberOfTrailingZeros_8 : decode b_JInt_numberOfTrailingZeros 8 = .ok (.iload_n 0, 1) := by decide +kernel
theorem d_JInt_numberOfTrailingZeros_9 : decode b_JInt_numberOfTrailingZeros 9 = .ok (.ifCond .gt 8, 3) := by decide +kernel
theorem d_JInt_numberOfTrailingZeros_12 : decode b_JInt_numberOfTrailingZeros 12 = .ok (.iload_n 0, 1) := by decide +kernel
theorem d_JInt_numberOfTrailingZeros_13 : decode b_JInt_numberOfTrailingZeros 13 = .ok (.bipush 32, 2) := by decide +kernel
theorem d_JInt_numberOfTrailingZeros_15 : decode b_JInt_numberOfTrailingZeros 15 = .ok (.iand, 1) := by decide +kernel
theorem d_JInt_numberOfTrailingZeros_16 : decode b_JInt_numberOfTrailingZeros 16 = .ok (.ireturn, 1) := by decide +kernel
theorem d_JInt_numberOfTrailingZeros_17 : decode b_JInt_numberOfTrailingZeros 17 = .ok (.iconst 1, 1) := by decide +kernel
theorem d_JInt_numberOfTrailingZeros_18 : decode b_JInt_numberOfTrailingZeros 18 = .ok (.istore_n 1, 1) := by decide +kernel
theorem d_JInt_numberOfTrailingZeros_19 : decode b_JInt_numberOfTrailingZeros 19 = .ok (.iload_n 0, 1) := by decide +kernel
theorem d_JInt_numberOfTrailingZeros_20 : decode b_JInt_numberOfTrailingZeros 20 = .ok (.ldc_w 264, 3) := by decide +kernel
theorem d_JInt_numberOfTrailingZeros_23 : decode b_JInt_numberOfTrailingZeros 23 = .ok (.if_icmp .le 11, 3) := by decide +kernel
theorem d_JInt_numberOfTrailingZeros_26 : decode b_JInt_numberOfTrailingZeros 26 = .ok (.iinc 1 16, 3) := by decide +kernel
theorem d_JInt_numberOfTrailingZeros_29 : decode b_JInt_numberOfTrailingZeros 29 = .ok (.iload_n 0, 1) := by decide +kernel
theorem d_JInt_numberOfTrailingZeros_30 : decode b_JInt_numberOfTrailingZeros 30 = .ok (.bipush 16, 2) := by decide +kernel
theorem d_JInt_numberOfTrailingZeros_32 : decode b_JInt_numberOfTrailingZeros 32 = .ok (.iushr, 1) := by decide +kernel
theorem d_JInt_numberOfTrailingZeros_33 : decode b_JInt_numberOfTrailingZeros 33 = .ok (.istore_n 0, 1) := by decide +kernel
theorem d_JInt_numberOfTrailingZeros_34 : decode b_JInt_numberOfTrailingZeros 34 = .ok (.iload_n 0, 1) := by decide +kernel
theorem d_JInt_numberOfTrailingZeros_35 : decode b_JInt_numberOfTrailingZeros 35 = .ok (.sipush 256, 3) := by decide +kernel
theorem d_JInt_numberOfTrailingZeros_38 : decode b_JInt_numberOfTrailingZeros 38 = .ok (.if_icmp .le 11, 3) := by decide +kernel
theorem d_JInt_numberOfTrailingZeros_41 : decode b_JInt_numberOfTrailingZeros 41 = .ok (.iinc 1 8, 3) := by decide +kernel
theorem d_JInt_numberOfTrailingZeros_44 : decode b_JInt_numberOfTrailingZeros 44 = .ok (.iload_n 0, 1) := by decide +kernel
theorem d_JInt_numberOfTrailingZeros_45 : decode b_JInt_numberOfTrailingZeros 45 = .ok (.bipush 8, 2) := by decide +kernel
theorem d_JInt_numberOfTrailingZeros_47 : decode b_JInt_numberOfTrailingZeros 47 = .ok (.iushr, 1) := by decide +kernel
theorem d_JInt_numberOfTrailingZeros_48 : decode b_JInt_numberOfTrailingZeros 48 = .ok (.istore_n 0, 1) := by decide +kernel
theorem d_JInt_numberOfTrailingZeros_49 : decode b_JInt_numberOfTrailingZeros 49 = .ok (.iload_n 0, 1) := by decide +kernel
theorem d_JInt_numberOfTrailingZeros_50 : decode b_JInt_numberOfTrailingZeros 50 = .ok (.bipush 16, 2) := by decide +kernel
theorem d_JInt_numberOfTrailingZeros_52 : decode b_JInt_numberOfTrailingZeros 52 = .ok (.if_icmp .le 10, 3) := by decide +kernel
theorem d_JInt_numberOfTrailingZeros_55 : decode b_JInt_numberOfTrailingZeros 55 = .ok (.iinc 1 4, 3) := by decide +kernel
theorem d_JInt_numberOfTrailingZeros_58 : decode b_JInt_numberOfTrailingZeros 58 = .ok (.iload_n 0, 1) := by decide +kernel
theorem d_JInt_numberOfTrailingZeros_59 : decode b_JInt_numberOfTrailingZeros 59 = .ok (.iconst 4, 1) := by decide +kernel
theorem d_JInt_numberOfTrailingZeros_60 : decode b_JInt_numberOfTrailingZeros 60 = .ok (.iushr, 1) := by decide +kernel
theorem d_JInt_numberOfTrailingZeros_61 : decode b_JInt_numberOfTrailingZeros 61 = .ok (.istore_n 0, 1) := by decide +kernel
theorem d_JInt_numberOfTrailingZeros_62 : decode b_JInt_numberOfTrailingZeros 62 = .ok (.iload_n 0, 1) := by decide +kernel
theorem d_JInt_numberOfTrailingZeros_63 : decode b_JInt_numberOfTrailingZeros 63 = .ok (.iconst 4, 1) := by decide +kernel
theorem d_JInt_numberOfTrailingZeros_64 : decode b_JInt_numberOfTrailingZeros 64 = .ok (.if_icmp .le 10, 3) := by decide +kernel
theorem d_JInt_numberOfTrailingZeros_67 : decode b_JInt_numberOfTrailingZeros 67 = .ok (.iinc 1 2, 3) := by decide +kernel
theorem d_JInt_numberOfTrailingZeros_70 : decode b_JInt_numberOfTrailingZeros 70 = .ok (.iload_n 0, 1) := by decide +kernel
theorem d_JInt_numberOfTrailingZeros_71 : decode b_JInt_numberOfTrailingZeros 71 = .ok (.iconst 2, 1) := by decide +kernel
theorem d_JInt_numberOfTrailingZeros_72 : decode b_JInt_numberOfTrailingZeros 72 = .ok (.iushr, 1) := by decide +kernel
theorem d_JInt_numberOfTrailingZeros_73 : decode b_JInt_numberOfTrailingZeros 73 = .ok (.istore_n 0, 1) := by decide +kernel
theorem d_JInt_numberOfTrailingZeros_74 : decode b_JInt_numberOfTrailingZeros 74 = .ok (.iload_n 1, 1) := by decide +kernel
theorem d_JInt_numberOfTrailingZeros_75 : decode b_JInt_numberOfTrailingZeros 75 = .ok (.iload_n 0, 1) := by decide +kernel
theorem d_JInt_numberOfTrailingZeros_76 : decode b_JInt_numberOfTrailingZeros 76 = .ok (.iconst 1, 1) := by decide +kernel
theorem d_JInt_numberOfTrailingZeros_77 : decode b_JInt_numberOfTrailingZeros 77 = .ok (.iushr, 1) := by decide +kernel
theorem d_JInt_numberOfTrailingZeros_78 : decode b_JInt_numberOfTrailingZeros 78 = .ok (.iadd, 1) := by decide +kernel
theorem d_JInt_numberOfTrailingZeros_79 : decode b_JInt_numberOfTrailingZeros 79 = .ok (.ireturn, 1) := by decide +kernel
theorem cal_JInt_numberOfTrailingZeros : gx_cal y_JInt_numberOfTrailingZeros b_JInt_numberOfTrailingZeros 2 (some .int) 1 := ⟨wd_943, wd_26, by decide +kernel⟩
def ww_JInt_numberOfTrailingZeros (g : Nat → ClassId)  : va_W := []
def f_JInt_numberOfTrailingZeros_74 (v0 : Int32) (v1 : Int32) : Option (Int32) := some (v1 + ((v0.toUInt32 >>> ((1 : Int32).toUInt32 &&& Int32.toUInt32 31)).toInt32))
def f_JInt_numberOfTrailingZeros_62 (v0 : Int32) (v1 : Int32) : Option (Int32) := if v0 ≤ (4 : Int32) then (f_JInt_numberOfTrailingZeros_74 v0 v1) else (f_JInt_numberOfTrailingZeros_74 ((v0.toUInt32 >>> ((2 : Int32).toUInt32 &&& Int32.toUInt32 31)).toInt32) (v1 + 2))
def f_JInt_numberOfTrailingZeros_49 (v0 : Int32) (v1 : Int32) : Option (Int32) := if v0 ≤ (16 : Int32) then (f_JInt_numberOfTrailingZeros_62 v0 v1) else (f_JInt_numberOfTrailingZeros_62 ((v0.toUInt32 >>> ((4 : Int32).toUInt32 &&& Int32.toUInt32 31)).toInt32) (v1 + 4))
def f_JInt_numberOfTrailingZeros_34 (v0 : Int32) (v1 : Int32) : Option (Int32) := if v0 ≤ (256 : Int32) then (f_JInt_numberOfTrailingZeros_49 v0 v1) else (f_JInt_numberOfTrailingZeros_49 ((v0.toUInt32 >>> ((8 : Int32).toUInt32 &&& Int32.toUInt32 31)).toInt32) (v1 + 8))
def f_JInt_numberOfTrailingZeros (a1 : Int32) : Option (Int32) := if 0 < ((a1 ^^^ (-1 : Int32)) &&& (a1 - (1 : Int32))) then (if ((a1 ^^^ (-1 : Int32)) &&& (a1 - (1 : Int32))) ≤ (65536 : Int32) then (f_JInt_numberOfTrailingZeros_34 ((a1 ^^^ (-1 : Int32)) &&& (a1 - (1 : Int32))) (1 : Int32)) else (f_JInt_numberOfTrailingZeros_34 ((((a1 ^^^ (-1 : Int32)) &&& (a1 - (1 : Int32))).toUInt32 >>> ((16 : Int32).toUInt32 &&& Int32.toUInt32 31)).toInt32) ((1 : Int32) + 16))) else (some (((a1 ^^^ (-1 : Int32)) &&& (a1 - (1 : Int32))) &&& (32 : Int32)))
set_option maxHeartbeats 4000000 in
set_option maxRecDepth 100000 in
theorem c_JInt_numberOfTrailingZeros (l : Launch) (z : State) (D : va_G) (g : Nat → ClassId) (a1 : Int32) (r : Int32) (hf : f_JInt_numberOfTrailingZeros a1 = some r) : gx_Mi l z D g y_JInt_numberOfTrailingZeros b_JInt_numberOfTrailingZeros 2 .int ({ frames := 0, cells := 0, slots := 0, locals := 0 } : Room) [.int a1] (ww_JInt_numberOfTrailingZeros g ) (ww_JInt_numberOfTrailingZeros g ) r := by
  refine gx_go (by decide +kernel) rfl ?_
  intro p e s m below meth c ls S hr hlk hnm E hP hD hl
  have hS : va_S (va_A (ww_JInt_numberOfTrailingZeros g ) s.heap.size) s.heap s.heap [] := va_S.rf
  have hl : lv_has ls 2 [(0, .int a1)] := hl
  have c_74 : ∀ (v0 : Int32) (v1 : Int32) (ls : Array Slot) (H : Heap) (locs : List Loc), lv_has ls 2 [(0, .int v0), (1, .int v1)] → va_S (va_A (ww_JInt_numberOfTrailingZeros g ) s.heap.size) s.heap H locs → va_P D vwC (ww_JInt_numberOfTrailingZeros g ) H → va_D (va_A (ww_JInt_numberOfTrailingZeros g ) s.heap.size) (ww_JInt_numberOfTrailingZeros g ) → (f_JInt_numberOfTrailingZeros_74 v0 v1) = some r → W p l e ({ frames := 0, cells := 0, slots := 0, locals := 0 } : Room) s m ([.int a1] : List Value).toArray below meth c H locs 0 0 (MQ below (gx_Qi D (ww_JInt_numberOfTrailingZeros g ) (ww_JInt_numberOfTrailingZeros g ) r s.heap.size) ([.int a1] : List Value).toArray s 0 0 (va_A (ww_JInt_numberOfTrailingZeros g ) s.heap.size)) (F0 m 74 ls []) := by
    intro v0 v1 ls H locs hl hS hP hD hf
    have hf : (some (v1 + ((v0.toUInt32 >>> ((1 : Int32).toUInt32 &&& Int32.toUInt32 31)).toInt32))) = some r := hf
    refine lv_iload_n S.1 S.2.1 d_JInt_numberOfTrailingZeros_74 rfl (lv_at hl 1 rfl) ?_
    refine lv_iload_n S.1 S.2.1 d_JInt_numberOfTrailingZeros_75 rfl (lv_at hl 0 rfl) ?_
    refine lv_iconst (v := 1) S.1 S.2.1 d_JInt_numberOfTrailingZeros_76 (by decide) ?_
    refine lv_iushr S.1 S.2.1 d_JInt_numberOfTrailingZeros_77 rfl ?_
    refine lv_iadd S.1 S.2.1 d_JInt_numberOfTrailingZeros_78 ?_
    obtain rfl := Option.some.inj hf
    exact gx_ri S hr hlk hS hP hD d_JInt_numberOfTrailingZeros_79
  have c_62 : ∀ (v0 : Int32) (v1 : Int32) (ls : Array Slot) (H : Heap) (locs : List Loc), lv_has ls 2 [(0, .int v0), (1, .int v1)] → va_S (va_A (ww_JInt_numberOfTrailingZeros g ) s.heap.size) s.heap H locs → va_P D vwC (ww_JInt_numberOfTrailingZeros g ) H → va_D (va_A (ww_JInt_numberOfTrailingZeros g ) s.heap.size) (ww_JInt_numberOfTrailingZeros g ) → (f_JInt_numberOfTrailingZeros_62 v0 v1) = some r → W p l e ({ frames := 0, cells := 0, slots := 0, locals := 0 } : Room) s m ([.int a1] : List Value).toArray below meth c H locs 0 0 (MQ below (gx_Qi D (ww_JInt_numberOfTrailingZeros g ) (ww_JInt_numberOfTrailingZeros g ) r s.heap.size) ([.int a1] : List Value).toArray s 0 0 (va_A (ww_JInt_numberOfTrailingZeros g ) s.heap.size)) (F0 m 62 ls []) := by
    intro v0 v1 ls H locs hl hS hP hD hf
    have hf : (if v0 ≤ (4 : Int32) then (f_JInt_numberOfTrailingZeros_74 v0 v1) else (f_JInt_numberOfTrailingZeros_74 ((v0.toUInt32 >>> ((2 : Int32).toUInt32 &&& Int32.toUInt32 31)).toInt32) (v1 + 2))) = some r := hf
    refine lv_iload_n S.1 S.2.1 d_JInt_numberOfTrailingZeros_62 rfl (lv_at hl 0 rfl) ?_
    refine lv_iconst (v := 4) S.1 S.2.1 d_JInt_numberOfTrailingZeros_63 (by decide) ?_
    refine lv_icmp_le (tgt := 74) S.1 S.2.1 d_JInt_numberOfTrailingZeros_64 (by decide) (fun h => ?_) (fun h => ?_)
    ·
      have hf := gx_ifp h hf
      exact c_74 v0 v1 ls _ _ (lv_sub hl [0, 1] rfl) hS hP hD hf
    ·
      have hf := gx_ifn h hf
      refine lv_iinc (v := v1 + 2) (lv' := [(1, .int (v1 + 2)), (0, .int v0)]) S.1 S.2.1 d_JInt_numberOfTrailingZeros_67 hl (k := 1) rfl rfl (by decide) rfl (fun ls hl => ?_)
      refine lv_iload_n S.1 S.2.1 d_JInt_numberOfTrailingZeros_70 rfl (lv_at hl 1 rfl) ?_
      refine lv_iconst (v := 2) S.1 S.2.1 d_JInt_numberOfTrailingZeros_71 (by decide) ?_
      refine lv_iushr S.1 S.2.1 d_JInt_numberOfTrailingZeros_72 rfl ?_
      refine lv_istore_n (lv' := [(0, .int ((v0.toUInt32 >>> ((2 : Int32).toUInt32 &&& Int32.toUInt32 31)).toInt32)), (1, .int (v1 + 2))]) S.1 S.2.1 d_JInt_numberOfTrailingZeros_73 rfl hl (by decide) rfl (fun ls hl => ?_)
      exact c_74 ((v0.toUInt32 >>> ((2 : Int32).toUInt32 &&& Int32.toUInt32 31)).toInt32) (v1 + 2) ls _ _ (lv_sub hl [0, 1] rfl) hS hP hD hf
  have c_49 : ∀ (v0 : Int32) (v1 : Int32) (ls : Array Slot) (H : Heap) (locs : List Loc), lv_has ls 2 [(0, .int v0), (1, .int v1)] → va_S (va_A (ww_JInt_numberOfTrailingZeros g ) s.heap.size) s.heap H locs → va_P D vwC (ww_JInt_numberOfTrailingZeros g ) H → va_D (va_A (ww_JInt_numberOfTrailingZeros g ) s.heap.size) (ww_JInt_numberOfTrailingZeros g ) → (f_JInt_numberOfTrailingZeros_49 v0 v1) = some r → W p l e ({ frames := 0, cells := 0, slots := 0, locals := 0 } : Room) s m ([.int a1] : List Value).toArray below meth c H locs 0 0 (MQ below (gx_Qi D (ww_JInt_numberOfTrailingZeros g ) (ww_JInt_numberOfTrailingZeros g ) r s.heap.size) ([.int a1] : List Value).toArray s 0 0 (va_A (ww_JInt_numberOfTrailingZeros g ) s.heap.size)) (F0 m 49 ls []) := by
    intro v0 v1 ls H locs hl hS hP hD hf
    have hf : (if v0 ≤ (16 : Int32) then (f_JInt_numberOfTrailingZeros_62 v0 v1) else (f_JInt_numberOfTrailingZeros_62 ((v0.toUInt32 >>> ((4 : Int32).toUInt32 &&& Int32.toUInt32 31)).toInt32) (v1 + 4))) = some r := hf
    refine lv_iload_n S.1 S.2.1 d_JInt_numberOfTrailingZeros_49 rfl (lv_at hl 0 rfl) ?_
    refine lv_bipush (v := 16) S.1 S.2.1 d_JInt_numberOfTrailingZeros_50 (by decide) ?_
    refine lv_icmp_le (tgt := 62) S.1 S.2.1 d_JInt_numberOfTrailingZeros_52 (by decide) (fun h => ?_) (fun h => ?_)
    ·
      have hf := gx_ifp h hf
      exact c_62 v0 v1 ls _ _ (lv_sub hl [0, 1] rfl) hS hP hD hf
    ·
      have hf := gx_ifn h hf
      refine lv_iinc (v := v1 + 4) (lv' := [(1, .int (v1 + 4)), (0, .int v0)]) S.1 S.2.1 d_JInt_numberOfTrailingZeros_55 hl (k := 1) rfl rfl (by decide) rfl (fun ls hl => ?_)
      refine lv_iload_n S.1 S.2.1 d_JInt_numberOfTrailingZeros_58 rfl (lv_at hl 1 rfl) ?_
      refine lv_iconst (v := 4) S.1 S.2.1 d_JInt_numberOfTrailingZeros_59 (by decide) ?_
      refine lv_iushr S.1 S.2.1 d_JInt_numberOfTrailingZeros_60 rfl ?_
      refine lv_istore_n (lv' := [(0, .int ((v0.toUInt32 >>> ((4 : Int32).toUInt32 &&& Int32.toUInt32 31)).toInt32)), (1, .int (v1 + 4))]) S.1 S.2.1 d_JInt_numberOfTrailingZeros_61 rfl hl (by decide) rfl (fun ls hl => ?_)
      exact c_62 ((v0.toUInt32 >>> ((4 : Int32).toUInt32 &&& Int32.toUInt32 31)).toInt32) (v1 + 4) ls _ _ (lv_sub hl [0, 1] rfl) hS hP hD hf
  have c_34 : ∀ (v0 : Int32) (v1 : Int32) (ls : Array Slot) (H : Heap) (locs : List Loc), lv_has ls 2 [(0, .int v0), (1, .int v1)] → va_S (va_A (ww_JInt_numberOfTrailingZeros g ) s.heap.size) s.heap H locs → va_P D vwC (ww_JInt_numberOfTrailingZeros g ) H → va_D (va_A (ww_JInt_numberOfTrailingZeros g ) s.heap.size) (ww_JInt_numberOfTrailingZeros g ) → (f_JInt_numberOfTrailingZeros_34 v0 v1) = some r → W p l e ({ frames := 0, cells := 0, slots := 0, locals := 0 } : Room) s m ([.int a1] : List Value).toArray below meth c H locs 0 0 (MQ below (gx_Qi D (ww_JInt_numberOfTrailingZeros g ) (ww_JInt_numberOfTrailingZeros g ) r s.heap.size) ([.int a1] : List Value).toArray s 0 0 (va_A (ww_JInt_numberOfTrailingZeros g ) s.heap.size)) (F0 m 34 ls []) := by
    intro v0 v1 ls H locs hl hS hP hD hf
    have hf : (if v0 ≤ (256 : Int32) then (f_JInt_numberOfTrailingZeros_49 v0 v1) else (f_JInt_numberOfTrailingZeros_49 ((v0.toUInt32 >>> ((8 : Int32).toUInt32 &&& Int32.toUInt32 31)).toInt32) (v1 + 8))) = some r := hf
    refine lv_iload_n S.1 S.2.1 d_JInt_numberOfTrailingZeros_34 rfl (lv_at hl 0 rfl) ?_
    refine lv_sipush (v := 256) S.1 S.2.1 d_JInt_numberOfTrailingZeros_35 (by decide) ?_
    refine lv_icmp_le (tgt := 49) S.1 S.2.1 d_JInt_numberOfTrailingZeros_38 (by decide) (fun h => ?_) (fun h => ?_)
    ·
      have hf := gx_ifp h hf
      exact c_49 v0 v1 ls _ _ (lv_sub hl [0, 1] rfl) hS hP hD hf
    ·
      have hf := gx_ifn h hf
      refine lv_iinc (v := v1 + 8) (lv' := [(1, .int (v1 + 8)), (0, .int v0)]) S.1 S.2.1 d_JInt_numberOfTrailingZeros_41 hl (k := 1) rfl rfl (by decide) rfl (fun ls hl => ?_)
      refine lv_iload_n S.1 S.2.1 d_JInt_numberOfTrailingZeros_44 rfl (lv_at hl 1 rfl) ?_
      refine lv_bipush (v := 8) S.1 S.2.1 d_JInt_numberOfTrailingZeros_45 (by decide) ?_
      refine lv_iushr S.1 S.2.1 d_JInt_numberOfTrailingZeros_47 rfl ?_
      refine lv_istore_n (lv' := [(0, .int ((v0.toUInt32 >>> ((8 : Int32).toUInt32 &&& Int32.toUInt32 31)).toInt32)), (1, .int (v1 + 8))]) S.1 S.2.1 d_JInt_numberOfTrailingZeros_48 rfl hl (by decide) rfl (fun ls hl => ?_)
      exact c_49 ((v0.toUInt32 >>> ((8 : Int32).toUInt32 &&& Int32.toUInt32 31)).toInt32) (v1 + 8) ls _ _ (lv_sub hl [0, 1] rfl) hS hP hD hf
  have hf : (if 0 < ((a1 ^^^ (-1 : Int32)) &&& (a1 - (1 : Int32))) then (if ((a1 ^^^ (-1 : Int32)) &&& (a1 - (1 : Int32))) ≤ (65536 : Int32) then (f_JInt_numberOfTrailingZeros_34 ((a1 ^^^ (-1 : Int32)) &&& (a1 - (1 : Int32))) (1 : Int32)) else (f_JInt_numberOfTrailingZeros_34 ((((a1 ^^^ (-1 : Int32)) &&& (a1 - (1 : Int32))).toUInt32 >>> ((16 : Int32).toUInt32 &&& Int32.toUInt32 31)).toInt32) ((1 : Int32) + 16))) else (some (((a1 ^^^ (-1 : Int32)) &&& (a1 - (1 : Int32))) &&& (32 : Int32)))) = some r := hf
  refine lv_iload_n S.1 S.2.1 d_JInt_numberOfTrailingZeros_0 rfl (lv_at hl 0 rfl) ?_
  refine lv_iconst (v := (-1)) S.1 S.2.1 d_JInt_numberOfTrailingZeros_1 (by decide) ?_
  refine lv_ixor S.1 S.2.1 d_JInt_numberOfTrailingZeros_2 ?_
  refine lv_iload_n S.1 S.2.1 d_JInt_numberOfTrailingZeros_3 rfl (lv_at hl 0 rfl) ?_
  refine lv_iconst (v := 1) S.1 S.2.1 d_JInt_numberOfTrailingZeros_4 (by decide) ?_
  refine lv_isub S.1 S.2.1 d_JInt_numberOfTrailingZeros_5 ?_
  refine lv_iand S.1 S.2.1 d_JInt_numberOfTrailingZeros_6 ?_
  refine lv_istore_n (lv' := [(0, .int ((a1 ^^^ (-1 : Int32)) &&& (a1 - (1 : Int32))))]) S.1 S.2.1 d_JInt_numberOfTrailingZeros_7 rfl hl (by decide) rfl (fun ls hl => ?_)
  refine lv_iload_n S.1 S.2.1 d_JInt_numberOfTrailingZeros_8 rfl (lv_at hl 0 rfl) ?_
  refine lv_if_gt (tgt := 17) S.1 S.2.1 d_JInt_numberOfTrailingZeros_9 (by decide) (fun h => ?_) (fun h => ?_)
  ·
    have hf := gx_ifp h hf
    refine lv_iconst (v := 1) S.1 S.2.1 d_JInt_numberOfTrailingZeros_17 (by decide) ?_
    refine lv_istore_n (lv' := [(1, .int (1 : Int32)), (0, .int ((a1 ^^^ (-1 : Int32)) &&& (a1 - (1 : Int32))))]) S.1 S.2.1 d_JInt_numberOfTrailingZeros_18 rfl hl (by decide) rfl (fun ls hl => ?_)
    refine lv_iload_n S.1 S.2.1 d_JInt_numberOfTrailingZeros_19 rfl (lv_at hl 1 rfl) ?_
    refine lv_ldcw (v := 65536) S.1 S.2.1 S.2.2.2.1 (S.2.2.2.2 _ wd_495) d_JInt_numberOfTrailingZeros_20 ?_
    refine lv_icmp_le (tgt := 34) S.1 S.2.1 d_JInt_numberOfTrailingZeros_23 (by decide) (fun h => ?_) (fun h => ?_)
    ·
      have hf := gx_ifp h hf
      exact c_34 ((a1 ^^^ (-1 : Int32)) &&& (a1 - (1 : Int32))) (1 : Int32) ls _ _ (lv_sub hl [1, 0] rfl) hS hP hD hf
    ·
      have hf := gx_ifn h hf
      refine lv_iinc (v := (1 : Int32) + 16) (lv' := [(1, .int ((1 : Int32) + 16)), (0, .int ((a1 ^^^ (-1 : Int32)) &&& (a1 - (1 : Int32))))]) S.1 S.2.1 d_JInt_numberOfTrailingZeros_26 hl (k := 0) rfl rfl (by decide) rfl (fun ls hl => ?_)
      refine lv_iload_n S.1 S.2.1 d_JInt_numberOfTrailingZeros_29 rfl (lv_at hl 1 rfl) ?_
      refine lv_bipush (v := 16) S.1 S.2.1 d_JInt_numberOfTrailingZeros_30 (by decide) ?_
      refine lv_iushr S.1 S.2.1 d_JInt_numberOfTrailingZeros_32 rfl ?_
      refine lv_istore_n (lv' := [(0, .int ((((a1 ^^^ (-1 : Int32)) &&& (a1 - (1 : Int32))).toUInt32 >>> ((16 : Int32).toUInt32 &&& Int32.toUInt32 31)).toInt32)), (1, .int ((1 : Int32) + 16))]) S.1 S.2.1 d_JInt_numberOfTrailingZeros_33 rfl hl (by decide) rfl (fun ls hl => ?_)
      exact c_34 ((((a1 ^^^ (-1 : Int32)) &&& (a1 - (1 : Int32))).toUInt32 >>> ((16 : Int32).toUInt32 &&& Int32.toUInt32 31)).toInt32) ((1 : Int32) + 16) ls _ _ (lv_sub hl [0, 1] rfl) hS hP hD hf
  ·
    have hf := gx_ifn h hf
    refine lv_iload_n S.1 S.2.1 d_JInt_numberOfTrailingZeros_12 rfl (lv_at hl 0 rfl) ?_
    refine lv_bipush (v := 32) S.1 S.2.1 d_JInt_numberOfTrailingZeros_13 (by decide) ?_
    refine lv_iand S.1 S.2.1 d_JInt_numberOfTrailingZeros_15 ?_
    obtain rfl := Option.some.inj hf
    exact gx_ri S hr hlk hS hP hD d_JInt_numberOfTrailingZeros_16
theorem d_JLong_numberOfLeadingZeros_0 : decode b_JLong_numberOfLeadingZeros 0 = .ok (.lload_n 0, 1) := by decide +kernel
theorem d_JLong_numberOfLeadingZeros_1 : decode b_JLong_numberOfLeadingZeros 1 = .ok (.bipush 32, 2) := by decide +kernel
theorem d_JLong_numberOfLeadingZeros_3 : decode b_JLong_numberOfLeadingZeros 3 = .ok (.lushr, 1) := by decide +kernel
theorem d_JLong_numberOfLeadingZeros_4 : decode b_JLong_numberOfLeadingZeros 4 = .ok (.l2i, 1) := by decide +kernel
theorem d_JLong_numberOfLeadingZeros_5 : decode b_JLong_numberOfLeadingZeros 5 = .ok (.istore_n 2, 1) := by decide +kernel
theorem d_JLong_numberOfLeadingZeros_6 : decode b_JLong_numberOfLeadingZeros 6 = .ok (.iload_n 2, 1) := by decide +kernel
theorem d_JLong_numberOfLeadingZeros_7 : decode b_JLong_numberOfLeadingZeros 7 = .ok (.ifCond .ne 14, 3) := by decide +kernel
theorem d_JLong_numberOfLeadingZeros_10 : decode b_JLong_numberOfLeadingZeros 10 = .ok (.bipush 32, 2) := by decide +kernel
theorem d_JLong_numberOfLeadingZeros_12 : decode b_JLong_numberOfLeadingZeros 12 = .ok (.lload_n 0, 1) := by decide +kernel
theorem d_JLong_numberOfLeadingZeros_13 : decode b_JLong_numberOfLeadingZeros 13 = .ok (.l2i, 1) := by decide +kernel
theorem d_JLong_numberOfLeadingZeros_14 : decode b_JLong_numberOfLeadingZeros 14 = .ok (.invokestatic 308, 3) := by decide +kernel
theorem d_JLong_numberOfLeadingZeros_17 : decode b_JLong_numberOfLeadingZeros 17 = .ok (.iadd, 1) := by decide +kernel
theorem d_JLong_numberOfLeadingZeros_18 : decode b_JLong_numberOfLeadingZeros 18 = .ok (.goto 7, 3) := by decide +kernel
theorem d_JLong_numberOfLeadingZeros_21 : decode b_JLong_numberOfLeadingZeros 21 = .ok (.iload_n 2, 1) := by decide +kernel
theorem d_JLong_numberOfLeadingZeros_22 : decode b_JLong_numberOfLeadingZeros 22 = .ok (.invokestatic 308, 3) := by decide +kernel
theorem d_JLong_numberOfLeadingZeros_25 : decode b_JLong_numberOfLeadingZeros 25 = .ok (.ireturn, 1) := by decide +kernel
theorem cal_JLong_numberOfLeadingZeros : gx_cal y_JLong_numberOfLeadingZeros b_JLong_numberOfLeadingZeros 3 (some .int) 1 := ⟨wd_491, wd_25, by decide +kernel⟩
def ww_JLong_numberOfLeadingZeros (g : Nat → ClassId)  : va_W := []
def f_JLong_numberOfLeadingZeros (a1 : Int64) : Option (Int32) := if (((a1.toUInt64 >>> ((32 : Int32).toInt64.toUInt64 &&& Int64.toUInt64 63)).toInt64).toInt32) = 0 then ((f_JInt_numberOfLeadingZeros a1.toInt32).bind fun u14 => some ((32 : Int32) + u14)) else ((f_JInt_numberOfLeadingZeros (((a1.toUInt64 >>> ((32 : Int32).toInt64.toUInt64 &&& Int64.toUInt64 63)).toInt64).toInt32)).bind fun u22 => some u22)
set_option maxHeartbeats 4000000 in
set_option maxRecDepth 100000 in
theorem c_JLong_numberOfLeadingZeros (l : Launch) (z : State) (D : va_G) (g : Nat → ClassId) (a1 : Int64) (r : Int32) (hf : f_JLong_numberOfLeadingZeros a1 = some r) : gx_Mi l z D g y_JLong_numberOfLeadingZeros b_JLong_numberOfLeadingZeros 3 .int ({ frames := 1, cells := 0, slots := 0, locals := 21 } : Room) [.long a1] (ww_JLong_numberOfLeadingZeros g ) (ww_JLong_numberOfLeadingZeros g ) r := by
  refine gx_go (by decide +kernel) rfl ?_
  intro p e s m below meth c ls S hr hlk hnm E hP hD hl
  have hS : va_S (va_A (ww_JLong_numberOfLeadingZeros g ) s.heap.size) s.heap s.heap [] := va_S.rf
  have hl : lv_has ls 3 [(0, .long a1)] := hl
  have hf : (if (((a1.toUInt64 >>> ((32 : Int32).toInt64.toUInt64 &&& Int64.toUInt64 63)).toInt64).toInt32) = 0 then ((f_JInt_numberOfLeadingZeros a1.toInt32).bind fun u14 => some ((32 : Int32) + u14)) else ((f_JInt_numberOfLeadingZeros (((a1.toUInt64 >>> ((32 : Int32).toInt64.toUInt64 &&& Int64.toUInt64 63)).toInt64).toInt32)).bind fun u22 => some u22)) = some r := hf
  refine lv_lload_n S.1 S.2.1 d_JLong_numberOfLeadingZeros_0 rfl (lv_at hl 0 rfl) ?_
  refine lv_bipush (v := 32) S.1 S.2.1 d_JLong_numberOfLeadingZeros_1 (by decide) ?_
  refine lv_lushr S.1 S.2.1 d_JLong_numberOfLeadingZeros_3 rfl ?_
  refine lv_l2i S.1 S.2.1 d_JLong_numberOfLeadingZeros_4 rfl ?_
  refine lv_istore_n (lv' := [(2, .int (((a1.toUInt64 >>> ((32 : Int32).toInt64.toUInt64 &&& Int64.toUInt64 63)).toInt64).toInt32)), (0, .long a1)]) S.1 S.2.1 d_JLong_numberOfLeadingZeros_5 rfl hl (by decide) rfl (fun ls hl => ?_)
  refine lv_iload_n S.1 S.2.1 d_JLong_numberOfLeadingZeros_6 rfl (lv_at hl 0 rfl) ?_
  refine lv_if_ne (tgt := 21) S.1 S.2.1 d_JLong_numberOfLeadingZeros_7 (by decide) (fun h => ?_) (fun h => ?_)
  ·
    have hf := gx_ifn h hf
    refine lv_iload_n S.1 S.2.1 d_JLong_numberOfLeadingZeros_21 rfl (lv_at hl 0 rfl) ?_
    obtain ⟨u22, hc22, hf⟩ := gx_bnd hf
    refine gx_Si (ws2 := (ww_JLong_numberOfLeadingZeros g )) S E hS hP hD (c_JInt_numberOfLeadingZeros l z D g (((a1.toUInt64 >>> ((32 : Int32).toInt64.toUInt64 &&& Int64.toUInt64 63)).toInt64).toInt32) u22 hc22) cal_JInt_numberOfLeadingZeros wd_493 wd_492 rfl [] rfl rfl rfl rfl hl.1 rfl d_JLong_numberOfLeadingZeros_22 ⟨Nat.zero_le _, Nat.zero_le _⟩ rfl (fun H locs hS hP hD => ?_)
    obtain rfl := Option.some.inj hf
    exact gx_ri S hr hlk hS hP hD d_JLong_numberOfLeadingZeros_25
  ·
    have hf := gx_ifp h hf
    refine lv_bipush (v := 32) S.1 S.2.1 d_JLong_numberOfLeadingZeros_10 (by decide) ?_
    refine lv_lload_n S.1 S.2.1 d_JLong_numberOfLeadingZeros_12 rfl (lv_at hl 1 rfl) ?_
    refine lv_l2i S.1 S.2.1 d_JLong_numberOfLeadingZeros_13 rfl ?_
    obtain ⟨u14, hc14, hf⟩ := gx_bnd hf
    refine gx_Si (ws2 := (ww_JLong_numberOfLeadingZeros g )) S E hS hP hD (c_JInt_numberOfLeadingZeros l z D g a1.toInt32 u14 hc14) cal_JInt_numberOfLeadingZeros wd_493 wd_492 rfl [] rfl rfl rfl rfl hl.1 rfl d_JLong_numberOfLeadingZeros_14 ⟨Nat.zero_le _, Nat.zero_le _⟩ rfl (fun H locs hS hP hD => ?_)
    refine lv_iadd S.1 S.2.1 d_JLong_numberOfLeadingZeros_17 ?_
    refine lv_goto (tgt := 25) S.1 S.2.1 d_JLong_numberOfLeadingZeros_18 (by decide) ?_
    obtain rfl := Option.some.inj hf
    exact gx_ri S hr hlk hS hP hD d_JLong_numberOfLeadingZeros_25
theorem d_JLong_numberOfTrailingZeros_0 : decode b_JLong_numberOfTrailingZeros 0 = .ok (.lload_n 0, 1) := by decide +kernel
theorem d_JLong_numberOfTrailingZeros_1 : decode b_JLong_numberOfTrailingZeros 1 = .ok (.l2i, 1) := by decide +kernel
theorem d_JLong_numberOfTrailingZeros_2 : decode b_JLong_numberOfTrailingZeros 2 = .ok (.istore_n 2, 1) := by decide +kernel
theorem d_JLong_numberOfTrailingZeros_3 : decode b_JLong_numberOfTrailingZeros 3 = .ok (.iload_n 2, 1) := by decide +kernel
theorem d_JLong_numberOfTrailingZeros_4 : decode b_JLong_numberOfTrailingZeros 4 = .ok (.ifCond .ne 17, 3) := by decide +kernel
theorem d_JLong_numberOfTrailingZeros_7 : decode b_JLong_numberOfTrailingZeros 7 = .ok (.bipush 32, 2) := by decide +kernel
theorem d_JLong_numberOfTrailingZeros_9 : decode b_JLong_numberOfTrailingZeros 9 = .ok (.lload_n 0, 1) := by decide +kernel
theorem d_JLong_numberOfTrailingZeros_10 : decode b_JLong_numberOfTrailingZeros 10 = .ok (.bipush 32, 2) := by decide +kernel
theorem d_JLong_numberOfTrailingZeros_12 : decode b_JLong_numberOfTrailingZeros 12 = .ok (.lushr, 1) := by decide +kernel
theorem d_JLong_numberOfTrailingZeros_13 : decode b_JLong_numberOfTrailingZeros 13 = .ok (.l2i, 1) := by decide +kernel
theorem d_JLong_numberOfTrailingZeros_14 : decode b_JLong_numberOfTrailingZeros 14 = .ok (.invokestatic 311, 3) := by decide +kernel
theorem d_JLong_numberOfTrailingZeros_17 : decode b_JLong_numberOfTrailingZeros 17 = .ok (.iadd, 1) := by decide +kernel
theorem d_JLong_numberOfTrailingZeros_18 : decode b_JLong_numberOfTrailingZeros 18 = .ok (.goto 7, 3) := by decide +kernel
theorem d_JLong_numberOfTrailingZeros_21 : decode b_JLong_numberOfTrailingZeros 21 = .ok (.iload_n 2, 1) := by decide +kernel
theorem d_JLong_numberOfTrailingZeros_22 : decode b_JLong_numberOfTrailingZeros 22 = .ok (.invokestatic 311, 3) := by decide +kernel
theorem d_JLong_numberOfTrailingZeros_25 : decode b_JLong_numberOfTrailingZeros 25 = .ok (.ireturn, 1) := by decide +kernel
theorem cal_JLong_numberOfTrailingZeros : gx_cal y_JLong_numberOfTrailingZeros b_JLong_numberOfTrailingZeros 3 (some .int) 1 := ⟨wd_940, wd_25, by decide +kernel⟩
def ww_JLong_numberOfTrailingZeros (g : Nat → ClassId)  : va_W := []
def f_JLong_numberOfTrailingZeros (a1 : Int64) : Option (Int32) := if a1.toInt32 = 0 then ((f_JInt_numberOfTrailingZeros (((a1.toUInt64 >>> ((32 : Int32).toInt64.toUInt64 &&& Int64.toUInt64 63)).toInt64).toInt32)).bind fun u14 => some ((32 : Int32) + u14)) else ((f_JInt_numberOfTrailingZeros a1.toInt32).bind fun u22 => some u22)
set_option maxHeartbeats 4000000 in
set_option maxRecDepth 100000 in
theorem c_JLong_numberOfTrailingZeros (l : Launch) (z : State) (D : va_G) (g : Nat → ClassId) (a1 : Int64) (r : Int32) (hf : f_JLong_numberOfTrailingZeros a1 = some r) : gx_Mi l z D g y_JLong_numberOfTrailingZeros b_JLong_numberOfTrailingZeros 3 .int ({ frames := 1, cells := 0, slots := 0, locals := 21 } : Room) [.long a1] (ww_JLong_numberOfTrailingZeros g ) (ww_JLong_numberOfTrailingZeros g ) r := by
  refine gx_go (by decide +kernel) rfl ?_
  intro p e s m below meth c ls S hr hlk hnm E hP hD hl
  have hS : va_S (va_A (ww_JLong_numberOfTrailingZeros g ) s.heap.size) s.heap s.heap [] := va_S.rf
  have hl : lv_has ls 3 [(0, .long a1)] := hl
  have hf : (if a1.toInt32 = 0 then ((f_JInt_numberOfTrailingZeros (((a1.toUInt64 >>> ((32 : Int32).toInt64.toUInt64 &&& Int64.toUInt64 63)).toInt64).toInt32)).bind fun u14 => some ((32 : Int32) + u14)) else ((f_JInt_numberOfTrailingZeros a1.toInt32).bind fun u22 => some u22)) = some r := hf
  refine lv_lload_n S.1 S.2.1 d_JLong_numberOfTrailingZeros_0 rfl (lv_at hl 0 rfl) ?_
  refine lv_l2i S.1 S.2.1 d_JLong_numberOfTrailingZeros_1 rfl ?_
  refine lv_istore_n (lv' := [(2, .int a1.toInt32), (0, .long a1)]) S.1 S.2.1 d_JLong_numberOfTrailingZeros_2 rfl hl (by decide) rfl (fun ls hl => ?_)
  refine lv_iload_n S.1 S.2.1 d_JLong_numberOfTrailingZeros_3 rfl (lv_at hl 0 rfl) ?_
  refine lv_if_ne (tgt := 21) S.1 S.2.1 d_JLong_numberOfTrailingZeros_4 (by decide) (fun h => ?_) (fun h => ?_)
  ·
    have hf := gx_ifn h hf
    refine lv_iload_n S.1 S.2.1 d_JLong_numberOfTrailingZeros_21 rfl (lv_at hl 0 rfl) ?_
    obtain ⟨u22, hc22, hf⟩ := gx_bnd hf
    refine gx_Si (ws2 := (ww_JLong_numberOfTrailingZeros g )) S E hS hP hD (c_JInt_numberOfTrailingZeros l z D g a1.toInt32 u22 hc22) cal_JInt_numberOfTrailingZeros wd_942 wd_941 rfl [] rfl rfl rfl rfl hl.1 rfl d_JLong_numberOfTrailingZeros_22 ⟨Nat.zero_le _, Nat.zero_le _⟩ rfl (fun H locs hS hP hD => ?_)
    obtain rfl := Option.some.inj hf
    exact gx_ri S hr hlk hS hP hD d_JLong_numberOfTrailingZeros_25
  ·
    have hf := gx_ifp h hf
    refine lv_bipush (v := 32) S.1 S.2.1 d_JLong_numberOfTrailingZeros_7 (by decide) ?_
    refine lv_lload_n S.1 S.2.1 d_JLong_numberOfTrailingZeros_9 rfl (lv_at hl 1 rfl) ?_
    refine lv_bipush (v := 32) S.1 S.2.1 d_JLong_numberOfTrailingZeros_10 (by decide) ?_
    refine lv_lushr S.1 S.2.1 d_JLong_numberOfTrailingZeros_12 rfl ?_
    refine lv_l2i S.1 S.2.1 d_JLong_numberOfTrailingZeros_13 rfl ?_
    obtain ⟨u14, hc14, hf⟩ := gx_bnd hf
    refine gx_Si (ws2 := (ww_JLong_numberOfTrailingZeros g )) S E hS hP hD (c_JInt_numberOfTrailingZeros l z D g (((a1.toUInt64 >>> ((32 : Int32).toInt64.toUInt64 &&& Int64.toUInt64 63)).toInt64).toInt32) u14 hc14) cal_JInt_numberOfTrailingZeros wd_942 wd_941 rfl [] rfl rfl rfl rfl hl.1 rfl d_JLong_numberOfTrailingZeros_14 ⟨Nat.zero_le _, Nat.zero_le _⟩ rfl (fun H locs hS hP hD => ?_)
    refine lv_iadd S.1 S.2.1 d_JLong_numberOfTrailingZeros_17 ?_
    refine lv_goto (tgt := 25) S.1 S.2.1 d_JLong_numberOfTrailingZeros_18 (by decide) ?_
    obtain rfl := Option.some.inj hf
    exact gx_ri S hr hlk hS hP hD d_JLong_numberOfTrailingZeros_25
