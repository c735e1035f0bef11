theorem d_JMath_max_0 : decode b_JMath_max 0 = .ok (.iload_n 0, 1) := by decide +kernel
theorem d_JMath_max_1 : decode b_JMath_max 1 = .ok (.iload_n 1, 1) := by decide +kernel
theorem d_JMath_max_2 : decode b_JMath_max 2 = .ok (.if_icmp .lt 7, 3) := by decide +kernel
theorem d_JMath_max_5 : decode b_JMath_max 5 = .ok (.iload_n 0, 1) := by decide +kernel
theorem d_JMath_max_6 : decode b_JMath_max 6 = .ok (.goto 4, 3) := by decide +kernel
theorem d_JMath_max_9 : decode b_JMath_max 9 = .ok (.iload_n 1, 1) := by decide +kernel
theorem d_JMath_max_10 : decode b_JMath_max 10 = .ok (.ireturn, 1) := by decide +kernel
theorem cal_JMath_max : gx_cal y_JMath_max b_JMath_max 2 (some .int) 2 := ⟨wd_412, wd_20, by decide +kernel⟩
def f_JMath_max (a1 : Int32) (a2 : Int32) : Option (Int32) := if a1 < a2 then (some a2) else (some a1)
set_option maxHeartbeats 4000000 in
set_option maxRecDepth 100000 in
theorem c_JMath_max (l : Launch) (z : State) (D : va_G) (g : Nat → ClassId) (a1 : Int32) (a2 : Int32) (r : Int32) (hf : f_JMath_max a1 a2 = some r) : gx_Mi l z D g y_JMath_max b_JMath_max 2 .int ({ frames := 0, cells := 0, slots := 0, locals := 0 } : Room) [.int a1, .int a2] [] [] r := by
  refine gx_go (by decide +kernel) rfl ?_
  intro p e s m below meth c ls S hr hlk hnm E hP hD hl
  have hS : va_S (va_A [] s.heap.size) s.heap s.heap [] := va_S.rf
  have hl : lv_has ls 2 [(0, .int a1), (1, .int a2)] := hl
  have hf : (if a1 < a2 then (some a2) else (some a1)) = some r := hf
  refine lv_iload_n S.1 S.2.1 d_JMath_max_0 rfl (lv_at hl 0 rfl) ?_
  refine lv_iload_n S.1 S.2.1 d_JMath_max_1 rfl (lv_at hl 1 rfl) ?_
  refine lv_icmp_lt (tgt := 9) S.1 S.2.1 d_JMath_max_2 (by decide) (fun h => ?_) (fun h => ?_)
  ·
    have hf := gx_ifp h hf
    refine lv_iload_n S.1 S.2.1 d_JMath_max_9 rfl (lv_at hl 1 rfl) ?_
    obtain rfl := Option.some.inj hf
    exact gx_ri S hr hlk hS hP hD d_JMath_max_10
  ·
    have hf := gx_ifn h hf
    refine lv_iload_n S.1 S.2.1 d_JMath_max_5 rfl (lv_at hl 0 rfl) ?_
    refine lv_goto (tgt := 10) S.1 S.2.1 d_JMath_max_6 (by decide) ?_
    obtain rfl := Option.some.inj hf
    exact gx_ri S hr hlk hS hP hD d_JMath_max_10
theorem d_JMath_min_0 : decode b_JMath_min 0 = .ok (.iload_n 0, 1) := by decide +kernel
theorem d_JMath_min_1 : decode b_JMath_min 1 = .ok (.iload_n 1, 1) := by decide +kernel
theorem d_JMath_min_2 : decode b_JMath_min 2 = .ok (.if_icmp .gt 7, 3) := by decide +kernel
theorem d_JMath_min_5 : decode b_JMath_min 5 = .ok (.iload_n 0, 1) := by decide +kernel
theorem d_JMath_min_6 : decode b_JMath_min 6 = .ok (.goto 4, 3) := by decide +kernel
theorem d_JMath_min_9 : decode b_JMath_min 9 = .ok (.iload_n 1, 1) := by decide +kernel
theorem d_JMath_min_10 : decode b_JMath_min 10 = .ok (.ireturn, 1) := by decide +kernel
theorem cal_JMath_min : gx_cal y_JMath_min b_JMath_min 2 (some .int) 2 := ⟨wd_420, wd_20, by decide +kernel⟩
def f_JMath_min (a1 : Int32) (a2 : Int32) : Option (Int32) := if a2 < a1 then (some a2) else (some a1)
set_option maxHeartbeats 4000000 in
set_option maxRecDepth 100000 in
theorem c_JMath_min (l : Launch) (z : State) (D : va_G) (g : Nat → ClassId) (a1 : Int32) (a2 : Int32) (r : Int32) (hf : f_JMath_min a1 a2 = some r) : gx_Mi l z D g y_JMath_min b_JMath_min 2 .int ({ frames := 0, cells := 0, slots := 0, locals := 0 } : Room) [.int a1, .int a2] [] [] r := by
  refine gx_go (by decide +kernel) rfl ?_
  intro p e s m below meth c ls S hr hlk hnm E hP hD hl
  have hS : va_S (va_A [] s.heap.size) s.heap s.heap [] := va_S.rf
  have hl : lv_has ls 2 [(0, .int a1), (1, .int a2)] := hl
  have hf : (if a2 < a1 then (some a2) else (some a1)) = some r := hf
  refine lv_iload_n S.1 S.2.1 d_JMath_min_0 rfl (lv_at hl 0 rfl) ?_
  refine lv_iload_n S.1 S.2.1 d_JMath_min_1 rfl (lv_at hl 1 rfl) ?_
  refine lv_icmp_gt (tgt := 9) S.1 S.2.1 d_JMath_min_2 (by decide) (fun h => ?_) (fun h => ?_)
  ·
    have hf := gx_ifp h hf
    refine lv_iload_n S.1 S.2.1 d_JMath_min_9 rfl (lv_at hl 1 rfl) ?_
    obtain rfl := Option.some.inj hf
    exact gx_ri S hr hlk hS hP hD d_JMath_min_10
  ·
    have hf := gx_ifn h hf
    refine lv_iload_n S.1 S.2.1 d_JMath_min_5 rfl (lv_at hl 0 rfl) ?_
    refine lv_goto (tgt := 10) S.1 S.2.1 d_JMath_min_6 (by decide) ?_
    obtain rfl := Option.some.inj hf
    exact gx_ri S hr hlk hS hP hD d_JMath_min_10
theorem d_JMath_abs_0 : decode b_JMath_abs 0 = .ok (.iload_n 0, 1) := by decide +kernel
theorem d_JMath_abs_1 : decode b_JMath_abs 1 = .ok (.ifCond .ge 8, 3) := by decide +kernel
theorem d_JMath_abs_4 : decode b_JMath_abs 4 = .ok (.iload_n 0, 1) := by decide +kernel
theorem d_JMath_abs_5 : decode b_JMath_abs 5 = .ok (.ineg, 1) := by decide +kernel
theorem d_JMath_abs_6 : decode b_JMath_abs 6 = .ok (.goto 4, 3) := by decide +kernel
theorem d_JMath_abs_9 : decode b_JMath_abs 9 = .ok (.iload_n 0, 1) := by decide +kernel
theorem d_JMath_abs_10 : decode b_JMath_abs 10 = .ok (.ireturn, 1) := by decide +kernel
theorem cal_JMath_abs : gx_cal y_JMath_abs b_JMath_abs 1 (some .int) 1 := ⟨wd_614, wd_20, by decide +kernel⟩
def f_JMath_abs (a1 : Int32) : Option (Int32) := if 0 ≤ a1 then (some a1) else (some (-a1))
set_option maxHeartbeats 4000000 in
set_option maxRecDepth 100000 in
theorem c_JMath_abs (l : Launch) (z : State) (D : va_G) (g : Nat → ClassId) (a1 : Int32) (r : Int32) (hf : f_JMath_abs a1 = some r) : gx_Mi l z D g y_JMath_abs b_JMath_abs 1 .int ({ frames := 0, cells := 0, slots := 0, locals := 0 } : Room) [.int a1] [] [] r := by
  refine gx_go (by decide +kernel) rfl ?_
  intro p e s m below meth c ls S hr hlk hnm E hP hD hl
  have hS : va_S (va_A [] s.heap.size) s.heap s.heap [] := va_S.rf
  have hl : lv_has ls 1 [(0, .int a1)] := hl
  have hf : (if 0 ≤ a1 then (some a1) else (some (-a1))) = some r := hf
  refine lv_iload_n S.1 S.2.1 d_JMath_abs_0 rfl (lv_at hl 0 rfl) ?_
  refine lv_if_ge (tgt := 9) S.1 S.2.1 d_JMath_abs_1 (by decide) (fun h => ?_) (fun h => ?_)
  ·
    have hf := gx_ifp h hf
    refine lv_iload_n S.1 S.2.1 d_JMath_abs_9 rfl (lv_at hl 0 rfl) ?_
    obtain rfl := Option.some.inj hf
    exact gx_ri S hr hlk hS hP hD d_JMath_abs_10
  ·
    have hf := gx_ifn h hf
    refine lv_iload_n S.1 S.2.1 d_JMath_abs_4 rfl (lv_at hl 0 rfl) ?_
    refine lv_ineg S.1 S.2.1 d_JMath_abs_5 ?_
    refine lv_goto (tgt := 10) S.1 S.2.1 d_JMath_abs_6 (by decide) ?_
    obtain rfl := Option.some.inj hf
    exact gx_ri S hr hlk hS hP hD d_JMath_abs_10
theorem d_JInt_numberOfLeadingZeros_0 : decode b_JInt_numberOfLeadingZeros 0 = .ok (.iload_n 0, 1) := by decide +kernel
theorem d_JInt_numberOfLeadingZeros_1 : decode b_JInt_numberOfLeadingZeros 1 = .ok (.ifCond .gt 14, 3) := by decide +kernel
theorem d_JInt_numberOfLeadingZeros_4 : decode b_JInt_numberOfLeadingZeros 4 = .ok (.iload_n 0, 1) := by decide +kernel
theorem d_JInt_numberOfLeadingZeros_5 : decode b_JInt_numberOfLeadingZeros 5 = .ok (.ifCond .ne 8, 3) := by decide +kernel
theorem d_JInt_numberOfLeadingZeros_8 : decode b_JInt_numberOfLeadingZeros 8 = .ok (.bipush 32, 2) := by decide +kernel
theorem d_JInt_numberOfLeadingZeros_10 : decode b_JInt_numberOfLeadingZeros 10 = .ok (.goto 4, 3) := by decide +kernel
theorem d_JInt_numberOfLeadingZeros_13 : decode b_JInt_numberOfLeadingZeros 13 = .ok (.iconst 0, 1) := by decide +kernel
theorem d_JInt_numberOfLeadingZeros_14 : decode b_JInt_numberOfLeadingZeros 14 = .ok (.ireturn, 1) := by decide +kernel
theorem d_JInt_numberOfLeadingZeros_15 : decode b_JInt_numberOfLeadingZeros 15 = .ok (.bipush 31, 2) := by decide +kernel
theorem d_JInt_numberOfLeadingZeros_17 : decode b_JInt_numberOfLeadingZeros 17 = .ok (.istore_n 1, 1) := by decide +kernel
theorem d_JInt_numberOfLeadingZeros_18 : decode b_JInt_numberOfLeadingZeros 18 = .ok (.iload_n 0, 1) := by decide +kernel
theorem d_JInt_numberOfLeadingZeros_19 : decode b_JInt_numberOfLeadingZeros 19 = .ok (.ldc_w 264, 3) := by decide +kernel
theorem d_JInt_numberOfLeadingZeros_22 : decode b_JInt_numberOfLeadingZeros 22 = .ok (.if_icmp .lt 11, 3) := by decide +kernel
theorem d_JInt_numberOfLeadingZeros_25 : decode b_JInt_numberOfLeadingZeros 25 = .ok (.iinc 1 (-16), 3) := by decide +kernel
theorem d_JInt_numberOfLeadingZeros_28 : decode b_JInt_numberOfLeadingZeros 28 = .ok (.iload_n 0, 1) := by decide +kernel
theorem d_JInt_numberOfLeadingZeros_29 : decode b_JInt_numberOfLeadingZeros 29 = .ok (.bipush 16, 2) := by decide +kernel
theorem d_JInt_numberOfLeadingZeros_31 : decode b_JInt_numberOfLeadingZeros 31 = .ok (.iushr, 1) := by decide +kernel
theorem d_JInt_numberOfLeadingZeros_32 : decode b_JInt_numberOfLeadingZeros 32 = .ok (.istore_n 0, 1) := by decide +kernel
theorem d_JInt_numberOfLeadingZeros_33 : decode b_JInt_numberOfLeadingZeros 33 = .ok (.iload_n 0, 1) := by decide +kernel
theorem d_JInt_numberOfLeadingZeros_34 : decode b_JInt_numberOfLeadingZeros 34 = .ok (.sipush 256, 3) := by decide +kernel
theorem d_JInt_numberOfLeadingZeros_37 : decode b_JInt_numberOfLeadingZeros 37 = .ok (.if_icmp .lt 11, 3) := by decide +kernel
theorem d_JInt_numberOfLeadingZeros_40 : decode b_JInt_numberOfLeadingZeros 40 = .ok (.iinc 1 (-8), 3) := by decide +kernel
theorem d_JInt_numberOfLeadingZeros_43 : decode b_JInt_numberOfLeadingZeros 43 = .ok (.iload_n 0, 1) := by decide +kernel
theorem d_JInt_numberOfLeadingZeros_44 : decode b_JInt_numberOfLeadingZeros 44 = .ok (.bipush 8, 2) := by decide +kernel
theorem d_JInt_numberOfLeadingZeros_46 : decode b_JInt_numberOfLeadingZeros 46 = .ok (.iushr, 1) := by decide +kernel
theorem d_JInt_numberOfLeadingZeros_47 : decode b_JInt_numberOfLeadingZeros 47 = .ok (.istore_n 0, 1) := by decide +kernel
theorem d_JInt_numberOfLeadingZeros_48 : decode b_JInt_numberOfLeadingZeros 48 = .ok (.iload_n 0, 1) := by decide +kernel
theorem d_JInt_numberOfLeadingZeros_49 : decode b_JInt_numberOfLeadingZeros 49 = .ok (.bipush 16, 2) := by decide +kernel
theorem d_JInt_numberOfLeadingZeros_51 : decode b_JInt_numberOfLeadingZeros 51 = .ok (.if_icmp .lt 10, 3) := by decide +kernel
theorem d_JInt_numberOfLeadingZeros_54 : decode b_JInt_numberOfLeadingZeros 54 = .ok (.iinc 1 (-4), 3) := by decide +kernel
theorem d_JInt_numberOfLeadingZeros_57 : decode b_JInt_numberOfLeadingZeros 57 = .ok (.iload_n 0, 1) := by decide +kernel
theorem d_JInt_numberOfLeadingZeros_58 : decode b_JInt_numberOfLeadingZeros 58 = .ok (.iconst 4, 1) := by decide +kernel
theorem d_JInt_numberOfLeadingZeros_59 : decode b_JInt_numberOfLeadingZeros 59 = .ok (.iushr, 1) := by decide +kernel
theorem d_JInt_numberOfLeadingZeros_60 : decode b_JInt_numberOfLeadingZeros 60 = .ok (.istore_n 0, 1) := by decide +kernel
theorem d_JInt_numberOfLeadingZeros_61 : decode b_JInt_numberOfLeadingZeros 61 = .ok (.iload_n 0, 1) := by decide +kernel
theorem d_JInt_numberOfLeadingZeros_62 : decode b_JInt_numberOfLeadingZeros 62 = .ok (.iconst 4, 1) := by decide +kernel
theorem d_JInt_numberOfLeadingZeros_63 : decode b_JInt_numberOfLeadingZeros 63 = .ok (.if_icmp .lt 10, 3) := by decide +kernel
theorem d_JInt_numberOfLeadingZeros_66 : decode b_JInt_numberOfLeadingZeros 66 = .ok (.iinc 1 (-2), 3) := by decide +kernel
theorem d_JInt_numberOfLeadingZeros_69 : decode b_JInt_numberOfLeadingZeros 69 = .ok (.iload_n 0, 1) := by decide +kernel
theorem d_JInt_numberOfLeadingZeros_70 : decode b_JInt_numberOfLeadingZeros 70 = .ok (.iconst 2, 1) := by decide +kernel
theorem d_JInt_numberOfLeadingZeros_71 : decode b_JInt_numberOfLeadingZeros 71 = .ok (.iushr, 1) := by decide +kernel
theorem d_JInt_numberOfLeadingZeros_72 : decode b_JInt_numberOfLeadingZeros 72 = .ok (.istore_n 0, 1) := by decide +kernel
theorem d_JInt_numberOfLeadingZeros_73 : decode b_JInt_numberOfLeadingZeros 73 = .ok (.iload_n 1, 1) := by decide +kernel
theorem d_JInt_numberOfLeadingZeros_74 : decode b_JInt_numberOfLeadingZeros 74 = .ok (.iload_n 0, 1) := by decide +kernel
theorem d_JInt_numberOfLeadingZeros_75 : decode b_JInt_numberOfLeadingZeros 75 = .ok (.iconst 1, 1) := by decide +kernel
theorem d_JInt_numberOfLeadingZeros_76 : decode b_JInt_numberOfLeadingZeros 76 = .ok (.iushr, 1) := by decide +kernel
theorem d_JInt_numberOfLeadingZeros_77 : decode b_JInt_numberOfLeadingZeros 77 = .ok (.isub, 1) := by decide +kernel
theorem d_JInt_numberOfLeadingZeros_78 : decode b_JInt_numberOfLeadingZeros 78 = .ok (.ireturn, 1) := by decide +kernel
theorem cal_JInt_numberOfLeadingZeros : gx_cal y_JInt_numberOfLeadingZeros b_JInt_numberOfLeadingZeros 2 (some .int) 1 := ⟨wd_494, wd_26, by decide +kernel⟩
def f_JInt_numberOfLeadingZeros_73 (v0 : Int32) (v1 : Int32) : Option (Int32) := some (v1 - ((v0.toUInt32 >>> ((1 : Int32).toUInt32 &&& Int32.toUInt32 31)).toInt32))
def f_JInt_numberOfLeadingZeros_61 (v0 : Int32) (v1 : Int32) : Option (Int32) := if v0 < (4 : Int32) then (f_JInt_numberOfLeadingZeros_73 v0 v1) else (f_JInt_numberOfLeadingZeros_73 ((v0.toUInt32 >>> ((2 : Int32).toUInt32 &&& Int32.toUInt32 31)).toInt32) (v1 + (-2)))
def f_JInt_numberOfLeadingZeros_48 (v0 : Int32) (v1 : Int32) : Option (Int32) := if v0 < (16 : Int32) then (f_JInt_numberOfLeadingZeros_61 v0 v1) else (f_JInt_numberOfLeadingZeros_61 ((v0.toUInt32 >>> ((4 : Int32).toUInt32 &&& Int32.toUInt32 31)).toInt32) (v1 + (-4)))
def f_JInt_numberOfLeadingZeros_33 (v0 : Int32) (v1 : Int32) : Option (Int32) := if v0 < (256 : Int32) then (f_JInt_numberOfLeadingZeros_48 v0 v1) else (f_JInt_numberOfLeadingZeros_48 ((v0.toUInt32 >>> ((8 : Int32).toUInt32 &&& Int32.toUInt32 31)).toInt32) (v1 + (-8)))
def f_JInt_numberOfLeadingZeros (a1 : Int32) : Option (Int32) := if 0 < a1 then (if a1 < (65536 : Int32) then (f_JInt_numberOfLeadingZeros_33 a1 (31 : Int32)) else (f_JInt_numberOfLeadingZeros_33 ((a1.toUInt32 >>> ((16 : Int32).toUInt32 &&& Int32.toUInt32 31)).toInt32) ((31 : Int32) + (-16)))) else (if a1 = 0 then (some (32 : Int32)) else (some (0 : Int32)))
set_option maxHeartbeats 4000000 in
set_option maxRecDepth 100000 in
theorem c_JInt_numberOfLeadingZeros (l : Launch) (z : State) (D : va_G) (g : Nat → ClassId) (a1 : Int32) (r : Int32) (hf : f_JInt_numberOfLeadingZeros a1 = some r) : gx_Mi l z D g y_JInt_numberOfLeadingZeros b_JInt_numberOfLeadingZeros 2 .int ({ frames := 0, cells := 0, slots := 0, locals := 0 } : Room) [.int a1] [] [] r := by
  refine gx_go (by decide +kernel) rfl ?_
  intro p e s m below meth c ls S hr hlk hnm E hP hD hl
  have hS : va_S (va_A [] s.heap.size) s.heap s.heap [] := va_S.rf
  have hl : lv_has ls 2 [(0, .int a1)] := hl
  have c_73 : ∀ (v0 : Int32) (v1 : Int32) (ls : Array Slot) (H : Heap) (locs : List Loc), lv_has ls 2 [(0, .int v0), (1, .int v1)] → va_S (va_A [] s.heap.size) s.heap H locs → va_P D vwC [] H → va_D (va_A [] s.heap.size) [] → (f_JInt_numberOfLeadingZeros_73 v0 v1) = some r → W p l e ({ frames := 0, cells := 0, slots := 0, locals := 0 } : Room) s m ([.int a1] : List Value).toArray below meth c H locs 0 0 (MQ below (gx_Qi D [] [] r s.heap.size) ([.int a1] : List Value).toArray s 0 0 (va_A [] s.heap.size)) (F0 m 73 ls []) := by
    intro v0 v1 ls H locs hl hS hP hD hf
    have hf : (some (v1 - ((v0.toUInt32 >>> ((1 : Int32).toUInt32 &&& Int32.toUInt32 31)).toInt32))) = some r := hf
    refine lv_iload_n S.1 S.2.1 d_JInt_numberOfLeadingZeros_73 rfl (lv_at hl 1 rfl) ?_
    refine lv_iload_n S.1 S.2.1 d_JInt_numberOfLeadingZeros_74 rfl (lv_at hl 0 rfl) ?_
    refine lv_iconst (v := 1) S.1 S.2.1 d_JInt_numberOfLeadingZeros_75 (by decide) ?_
    refine lv_iushr S.1 S.2.1 d_JInt_numberOfLeadingZeros_76 rfl ?_
    refine lv_isub S.1 S.2.1 d_JInt_numberOfLeadingZeros_77 ?_
    obtain rfl := Option.some.inj hf
    exact gx_ri S hr hlk hS hP hD d_JInt_numberOfLeadingZeros_78
  have c_61 : ∀ (v0 : Int32) (v1 : Int32) (ls : Array Slot) (H : Heap) (locs : List Loc), lv_has ls 2 [(0, .int v0), (1, .int v1)] → va_S (va_A [] s.heap.size) s.heap H locs → va_P D vwC [] H → va_D (va_A [] s.heap.size) [] → (f_JInt_numberOfLeadingZeros_61 v0 v1) = some r → W p l e ({ frames := 0, cells := 0, slots := 0, locals := 0 } : Room) s m ([.int a1] : List Value).toArray below meth c H locs 0 0 (MQ below (gx_Qi D [] [] r s.heap.size) ([.int a1] : List Value).toArray s 0 0 (va_A [] s.heap.size)) (F0 m 61 ls []) := by
    intro v0 v1 ls H locs hl hS hP hD hf
    have hf : (if v0 < (4 : Int32) then (f_JInt_numberOfLeadingZeros_73 v0 v1) else (f_JInt_numberOfLeadingZeros_73 ((v0.toUInt32 >>> ((2 : Int32).toUInt32 &&& Int32.toUInt32 31)).toInt32) (v1 + (-2)))) = some r := hf
    refine lv_iload_n S.1 S.2.1 d_JInt_numberOfLeadingZeros_61 rfl (lv_at hl 0 rfl) ?_
    refine lv_iconst (v := 4) S.1 S.2.1 d_JInt_numberOfLeadingZeros_62 (by decide) ?_
    refine lv_icmp_lt (tgt := 73) S.1 S.2.1 d_JInt_numberOfLeadingZeros_63 (by decide) (fun h => ?_) (fun h => ?_)
    ·
      have hf := gx_ifp h hf
      exact c_73 v0 v1 ls _ _ (lv_sub hl [0, 1] rfl) hS hP hD hf
    ·
      have hf := gx_ifn h hf
      refine lv_iinc (v := v1 + (-2)) (lv' := [(1, .int (v1 + (-2))), (0, .int v0)]) S.1 S.2.1 d_JInt_numberOfLeadingZeros_66 hl (k := 1) rfl rfl (by decide) rfl (fun ls hl => ?_)
      refine lv_iload_n S.1 S.2.1 d_JInt_numberOfLeadingZeros_69 rfl (lv_at hl 1 rfl) ?_
      refine lv_iconst (v := 2) S.1 S.2.1 d_JInt_numberOfLeadingZeros_70 (by decide) ?_
      refine lv_iushr S.1 S.2.1 d_JInt_numberOfLeadingZeros_71 rfl ?_
      refine lv_istore_n (lv' := [(0, .int ((v0.toUInt32 >>> ((2 : Int32).toUInt32 &&& Int32.toUInt32 31)).toInt32)), (1, .int (v1 + (-2)))]) S.1 S.2.1 d_JInt_numberOfLeadingZeros_72 rfl hl (by decide) rfl (fun ls hl => ?_)
      exact c_73 ((v0.toUInt32 >>> ((2 : Int32).toUInt32 &&& Int32.toUInt32 31)).toInt32) (v1 + (-2)) ls _ _ (lv_sub hl [0, 1] rfl) hS hP hD hf
  have c_48 : ∀ (v0 : Int32) (v1 : Int32) (ls : Array Slot) (H : Heap) (locs : List Loc), lv_has ls 2 [(0, .int v0), (1, .int v1)] → va_S (va_A [] s.heap.size) s.heap H locs → va_P D vwC [] H → va_D (va_A [] s.heap.size) [] → (f_JInt_numberOfLeadingZeros_48 v0 v1) = some r → W p l e ({ frames := 0, cells := 0, slots := 0, locals := 0 } : Room) s m ([.int a1] : List Value).toArray below meth c H locs 0 0 (MQ below (gx_Qi D [] [] r s.heap.size) ([.int a1] : List Value).toArray s 0 0 (va_A [] s.heap.size)) (F0 m 48 ls []) := by
    intro v0 v1 ls H locs hl hS hP hD hf
    have hf : (if v0 < (16 : Int32) then (f_JInt_numberOfLeadingZeros_61 v0 v1) else (f_JInt_numberOfLeadingZeros_61 ((v0.toUInt32 >>> ((4 : Int32).toUInt32 &&& Int32.toUInt32 31)).toInt32) (v1 + (-4)))) = some r := hf
    refine lv_iload_n S.1 S.2.1 d_JInt_numberOfLeadingZeros_48 rfl (lv_at hl 0 rfl) ?_
    refine lv_bipush (v := 16) S.1 S.2.1 d_JInt_numberOfLeadingZeros_49 (by decide) ?_
    refine lv_icmp_lt (tgt := 61) S.1 S.2.1 d_JInt_numberOfLeadingZeros_51 (by decide) (fun h => ?_) (fun h => ?_)
    ·
      have hf := gx_ifp h hf
      exact c_61 v0 v1 ls _ _ (lv_sub hl [0, 1] rfl) hS hP hD hf
    ·
      have hf := gx_ifn h hf
      refine lv_iinc (v := v1 + (-4)) (lv' := [(1, .int (v1 + (-4))), (0, .int v0)]) S.1 S.2.1 d_JInt_numberOfLeadingZeros_54 hl (k := 1) rfl rfl (by decide) rfl (fun ls hl => ?_)
      refine lv_iload_n S.1 S.2.1 d_JInt_numberOfLeadingZeros_57 rfl (lv_at hl 1 rfl) ?_
      refine lv_iconst (v := 4) S.1 S.2.1 d_JInt_numberOfLeadingZeros_58 (by decide) ?_
      refine lv_iushr S.1 S.2.1 d_JInt_numberOfLeadingZeros_59 rfl ?_
      refine lv_istore_n (lv' := [(0, .int ((v0.toUInt32 >>> ((4 : Int32).toUInt32 &&& Int32.toUInt32 31)).toInt32)), (1, .int (v1 + (-4)))]) S.1 S.2.1 d_JInt_numberOfLeadingZeros_60 rfl hl (by decide) rfl (fun ls hl => ?_)
      exact c_61 ((v0.toUInt32 >>> ((4 : Int32).toUInt32 &&& Int32.toUInt32 31)).toInt32) (v1 + (-4)) ls _ _ (lv_sub hl [0, 1] rfl) hS hP hD hf
  have c_33 : ∀ (v0 : Int32) (v1 : Int32) (ls : Array Slot) (H : Heap) (locs : List Loc), lv_has ls 2 [(0, .int v0), (1, .int v1)] → va_S (va_A [] s.heap.size) s.heap H locs → va_P D vwC [] H → va_D (va_A [] s.heap.size) [] → (f_JInt_numberOfLeadingZeros_33 v0 v1) = some r → W p l e ({ frames := 0, cells := 0, slots := 0, locals := 0 } : Room) s m ([.int a1] : List Value).toArray below meth c H locs 0 0 (MQ below (gx_Qi D [] [] r s.heap.size) ([.int a1] : List Value).toArray s 0 0 (va_A [] s.heap.size)) (F0 m 33 ls []) := by
    intro v0 v1 ls H locs hl hS hP hD hf
    have hf : (if v0 < (256 : Int32) then (f_JInt_numberOfLeadingZeros_48 v0 v1) else (f_JInt_numberOfLeadingZeros_48 ((v0.toUInt32 >>> ((8 : Int32).toUInt32 &&& Int32.toUInt32 31)).toInt32) (v1 + (-8)))) = some r := hf
    refine lv_iload_n S.1 S.2.1 d_JInt_numberOfLeadingZeros_33 rfl (lv_at hl 0 rfl) ?_
    refine lv_sipush (v := 256) S.1 S.2.1 d_JInt_numberOfLeadingZeros_34 (by decide) ?_
    refine lv_icmp_lt (tgt := 48) S.1 S.2.1 d_JInt_numberOfLeadingZeros_37 (by decide) (fun h => ?_) (fun h => ?_)
    ·
      have hf := gx_ifp h hf
      exact c_48 v0 v1 ls _ _ (lv_sub hl [0, 1] rfl) hS hP hD hf
    ·
      have hf := gx_ifn h hf
      refine lv_iinc (v := v1 + (-8)) (lv' := [(1, .int (v1 + (-8))), (0, .int v0)]) S.1 S.2.1 d_JInt_numberOfLeadingZeros_40 hl (k := 1) rfl rfl (by decide) rfl (fun ls hl => ?_)
      refine lv_iload_n S.1 S.2.1 d_JInt_numberOfLeadingZeros_43 rfl (lv_at hl 1 rfl) ?_
      refine lv_bipush (v := 8) S.1 S.2.1 d_JInt_numberOfLeadingZeros_44 (by decide) ?_
      refine lv_iushr S.1 S.2.1 d_JInt_numberOfLeadingZeros_46 rfl ?_
      refine lv_istore_n (lv' := [(0, .int ((v0.toUInt32 >>> ((8 : Int32).toUInt32 &&& Int32.toUInt32 31)).toInt32)), (1, .int (v1 + (-8)))]) S.1 S.2.1 d_JInt_numberOfLeadingZeros_47 rfl hl (by decide) rfl (fun ls hl => ?_)
      exact c_48 ((v0.toUInt32 >>> ((8 : Int32).toUInt32 &&& Int32.toUInt32 31)).toInt32) (v1 + (-8)) ls _ _ (lv_sub hl [0, 1] rfl) hS hP hD hf
  have hf : (if 0 < a1 then (if a1 < (65536 : Int32) then (f_JInt_numberOfLeadingZeros_33 a1 (31 : Int32)) else (f_JInt_numberOfLeadingZeros_33 ((a1.toUInt32 >>> ((16 : Int32).toUInt32 &&& Int32.toUInt32 31)).toInt32) ((31 : Int32) + (-16)))) else (if a1 = 0 then (some (32 : Int32)) else (some (0 : Int32)))) = some r := hf
  refine lv_iload_n S.1 S.2.1 d_JInt_numberOfLeadingZeros_0 rfl (lv_at hl 0 rfl) ?_
  refine lv_if_gt (tgt := 15) S.1 S.2.1 d_JInt_numberOfLeadingZeros_1 (by decide) (fun h => ?_) (fun h => ?_)
  ·
    have hf := gx_ifp h hf
    refine lv_bipush (v := 31) S.1 S.2.1 d_JInt_numberOfLeadingZeros_15 (by decide) ?_
    refine lv_istore_n (lv' := [(1, .int (31 : Int32)), (0, .int a1)]) S.1 S.2.1 d_JInt_numberOfLeadingZeros_17 rfl hl (by decide) rfl (fun ls hl => ?_)
    refine lv_iload_n S.1 S.2.1 d_JInt_numberOfLeadingZeros_18 rfl (lv_at hl 1 rfl) ?_
    refine lv_ldcw (v := 65536) S.1 S.2.1 S.2.2.2.1 (S.2.2.2.2 _ wd_495) d_JInt_numberOfLeadingZeros_19 ?_
    refine lv_icmp_lt (tgt := 33) S.1 S.2.1 d_JInt_numberOfLeadingZeros_22 (by decide) (fun h => ?_) (fun h => ?_)
    ·
      have hf := gx_ifp h hf
      exact c_33 a1 (31 : Int32) ls _ _ (lv_sub hl [1, 0] rfl) hS hP hD hf
    ·
      have hf := gx_ifn h hf
      refine lv_iinc (v := (31 : Int32) + (-16)) (lv' := [(1, .int ((31 : Int32) + (-16))), (0, .int a1)]) S.1 S.2.1 d_JInt_numberOfLeadingZeros_25 hl (k := 0) rfl rfl (by decide) rfl (fun ls hl => ?_)
      refine lv_iload_n S.1 S.2.1 d_JInt_numberOfLeadingZeros_28 rfl (lv_at hl 1 rfl) ?_
      refine lv_bipush (v := 16) S.1 S.2.1 d_JInt_numberOfLeadingZeros_29 (by decide) ?_
      refine lv_iushr S.1 S.2.1 d_JInt_numberOfLeadingZeros_31 rfl ?_
      refine lv_istore_n (lv' := [(0, .int ((a1.toUInt32 >>> ((16 : Int32).toUInt32 &&& Int32.toUInt32 31)).toInt32)), (1, .int ((31 : Int32) + (-16)))]) S.1 S.2.1 d_JInt_numberOfLeadingZeros_32 rfl hl (by decide) rfl (fun ls hl => ?_)
      exact c_33 ((a1.toUInt32 >>> ((16 : Int32).toUInt32 &&& Int32.toUInt32 31)).toInt32) ((31 : Int32) + (-16)) ls _ _ (lv_sub hl [0, 1] rfl) hS hP hD hf
  ·
    have hf := gx_ifn h hf
    refine lv_iload_n S.1 S.2.1 d_JInt_numberOfLeadingZeros_4 rfl (lv_at hl 0 rfl) ?_
    refine lv_if_ne (tgt := 13) S.1 S.2.1 d_JInt_numberOfLeadingZeros_5 (by decide) (fun h => ?_) (fun h => ?_)
    ·
      have hf := gx_ifn h hf
      refine lv_iconst (v := 0) S.1 S.2.1 d_JInt_numberOfLeadingZeros_13 (by decide) ?_
      obtain rfl := Option.some.inj hf
      exact gx_ri S hr hlk hS hP hD d_JInt_numberOfLeadingZeros_14
    ·
      have hf := gx_ifp h hf
      refine lv_bipush (v := 32) S.1 S.2.1 d_JInt_numberOfLeadingZeros_8 (by decide) ?_
      refine lv_goto (tgt := 14) S.1 S.2.1 d_JInt_numberOfLeadingZeros_10 (by decide) ?_
      obtain rfl := Option.some.inj hf
      exact gx_ri S hr hlk hS hP hD d_JInt_numberOfLeadingZeros_14
theorem d_Bg_limb_0 : decode b_Bg_limb 0 = .ok (.iload_n 1, 1) := by decide +kernel
theorem d_Bg_limb_1 : decode b_Bg_limb 1 = .ok (.ifCond .lt 25, 3) := by decide +kernel
theorem d_Bg_limb_4 : decode b_Bg_limb 4 = .ok (.iload_n 1, 1) := by decide +kernel
theorem d_Bg_limb_5 : decode b_Bg_limb 5 = .ok (.aload_n 0, 1) := by decide +kernel
theorem d_Bg_limb_6 : decode b_Bg_limb 6 = .ok (.getfield 13, 3) := by decide +kernel
theorem d_Bg_limb_9 : decode b_Bg_limb 9 = .ok (.if_icmp .ge 17, 3) := by decide +kernel
theorem d_Bg_limb_12 : decode b_Bg_limb 12 = .ok (.aload_n 0, 1) := by decide +kernel
theorem d_Bg_limb_13 : decode b_Bg_limb 13 = .ok (.getfield 9, 3) := by decide +kernel
theorem d_Bg_limb_16 : decode b_Bg_limb 16 = .ok (.iload_n 1, 1) := by decide +kernel
theorem d_Bg_limb_17 : decode b_Bg_limb 17 = .ok (.iaload, 1) := by decide +kernel
theorem d_Bg_limb_18 : decode b_Bg_limb 18 = .ok (.i2l, 1) := by decide +kernel
theorem d_Bg_limb_19 : decode b_Bg_limb 19 = .ok (.ldc2_w 17, 3) := by decide +kernel
theorem d_Bg_limb_22 : decode b_Bg_limb 22 = .ok (.land, 1) := by decide +kernel
theorem d_Bg_limb_23 : decode b_Bg_limb 23 = .ok (.goto 4, 3) := by decide +kernel
theorem d_Bg_limb_26 : decode b_Bg_limb 26 = .ok (.lconst 0, 1) := by decide +kernel
theorem d_Bg_limb_27 : decode b_Bg_limb 27 = .ok (.lreturn, 1) := by decide +kernel
theorem cal_Bg_limb : gx_cal y_Bg_limb b_Bg_limb 2 (some .long) 1 := ⟨wd_529, wd_5, by decide +kernel⟩
def f_Bg_limb_26 (o_size : Int32) (o_limbs_c : Nat → Int32) : Option (Int64) := some (0 : Int64)
def f_Bg_limb (a1 : Int32) (o_size : Int32) (o_limbs_c : Nat → Int32) : Option (Int64) := if a1 < 0 then (f_Bg_limb_26 o_size o_limbs_c) else (if o_size ≤ a1 then (f_Bg_limb_26 o_size o_limbs_c) else (if gx_ok a1 96 = true then some (((o_limbs_c a1.toNatClampNeg).toInt64) &&& (4294967295 : Int64)) else none))
set_option maxHeartbeats 4000000 in
set_option maxRecDepth 100000 in
theorem c_Bg_limb (l : Launch) (z : State) (D : va_G) (g : Nat → ClassId) (o : Nat) (o_limbs : Nat) (o_size : Int32) (o_limbs_c : Nat → Int32) (a1 : Int32) (r : Int64) (hf : f_Bg_limb a1 o_size o_limbs_c = some r) : gx_Ml l z D g y_Bg_limb b_Bg_limb 2 .long ({ frames := 0, cells := 0, slots := 0, locals := 0 } : Room) [.ref o, .int a1] [(o, .inr (1, [.ref o_limbs, .int o_size])), (o_limbs, .inl (g 0, 96, .inl o_limbs_c))] [(o, .inr (1, [.ref o_limbs, .int o_size])), (o_limbs, .inl (g 0, 96, .inl o_limbs_c))] r := by
  refine gx_go (by decide +kernel) rfl ?_
  intro p e s m below meth c ls S hr hlk hnm E hP hD hl
  have hS : va_S (va_A [(o, .inr (1, [.ref o_limbs, .int o_size])), (o_limbs, .inl (g 0, 96, .inl o_limbs_c))] s.heap.size) s.heap s.heap [] := va_S.rf
  have hl : lv_has ls 2 [(0, .ref o), (1, .int a1)] := hl
  have c_26 : ∀  (ls : Array Slot) (H : Heap) (locs : List Loc), lv_has ls 2 [] → va_S (va_A [(o, .inr (1, [.ref o_limbs, .int o_size])), (o_limbs, .inl (g 0, 96, .inl o_limbs_c))] s.heap.size) s.heap H locs → va_P D vwC [(o, .inr (1, [.ref o_limbs, .int o_size])), (o_limbs, .inl (g 0, 96, .inl o_limbs_c))] H → va_D (va_A [(o, .inr (1, [.ref o_limbs, .int o_size])), (o_limbs, .inl (g 0, 96, .inl o_limbs_c))] s.heap.size) [(o, .inr (1, [.ref o_limbs, .int o_size])), (o_limbs, .inl (g 0, 96, .inl o_limbs_c))] → (f_Bg_limb_26 o_size o_limbs_c) = some r → W p l e ({ frames := 0, cells := 0, slots := 0, locals := 0 } : Room) s m ([.ref o, .int a1] : List Value).toArray below meth c H locs 0 0 (MQ below (gx_Ql D [(o, .inr (1, [.ref o_limbs, .int o_size])), (o_limbs, .inl (g 0, 96, .inl o_limbs_c))] [(o, .inr (1, [.ref o_limbs, .int o_size])), (o_limbs, .inl (g 0, 96, .inl o_limbs_c))] r s.heap.size) ([.ref o, .int a1] : List Value).toArray s 0 0 (va_A [(o, .inr (1, [.ref o_limbs, .int o_size])), (o_limbs, .inl (g 0, 96, .inl o_limbs_c))] s.heap.size)) (F0 m 26 ls []) := by
    intro  ls H locs hl hS hP hD hf
    have hf : (some (0 : Int64)) = some r := hf
    refine lv_lconst (v := 0) S.1 S.2.1 d_Bg_limb_26 (by decide) ?_
    obtain rfl := Option.some.inj hf
    exact gx_rl S hr hlk hS hP hD d_Bg_limb_27
  have hf : (if a1 < 0 then (f_Bg_limb_26 o_size o_limbs_c) else (if o_size ≤ a1 then (f_Bg_limb_26 o_size o_limbs_c) else (if gx_ok a1 96 = true then some (((o_limbs_c a1.toNatClampNeg).toInt64) &&& (4294967295 : Int64)) else none))) = some r := hf
  refine lv_iload_n S.1 S.2.1 d_Bg_limb_0 rfl (lv_at hl 1 rfl) ?_
  refine lv_if_lt (tgt := 26) S.1 S.2.1 d_Bg_limb_1 (by decide) (fun h => ?_) (fun h => ?_)
  ·
    have hf := gx_ifp h hf
    exact c_26  ls _ _ (lv_sub hl [] rfl) hS hP hD hf
  ·
    have hf := gx_ifn h hf
    refine lv_iload_n S.1 S.2.1 d_Bg_limb_4 rfl (lv_at hl 1 rfl) ?_
    refine lv_aload_n S.1 S.2.1 d_Bg_limb_5 rfl (lv_at hl 0 rfl) ?_
    refine gx_gf (v := .int o_size) S E hP 0 rfl rfl i_Bg 1 rfl wd_107 ⟨rfl, rfl, rfl⟩ rfl d_Bg_limb_6 ?_
    refine lv_icmp_ge (tgt := 26) S.1 S.2.1 d_Bg_limb_9 (by decide) (fun h => ?_) (fun h => ?_)
    ·
      have hf := gx_ifp h hf
      exact c_26  ls _ _ (lv_sub hl [] rfl) hS hP hD hf
    ·
      have hf := gx_ifn h hf
      refine lv_aload_n S.1 S.2.1 d_Bg_limb_12 rfl (lv_at hl 0 rfl) ?_
      refine gx_gf (v := .ref o_limbs) S E hP 0 rfl rfl i_Bg 0 rfl wd_106 ⟨rfl, rfl, rfl⟩ rfl d_Bg_limb_13 ?_
      refine lv_iload_n S.1 S.2.1 d_Bg_limb_16 rfl (lv_at hl 1 rfl) ?_
      obtain ⟨hin, hf⟩ := gx_chk hf
      refine va_iald S.1 S.2.1 E.1.1 hP 1 0 rfl rfl (gx_okv hin) d_Bg_limb_17 ?_
      refine lv_i2l S.1 S.2.1 d_Bg_limb_18 rfl ?_
      refine lv_ldc2 (v := 4294967295) S.1 S.2.1 S.2.2.2.1 (S.2.2.2.2 _ wd_520) d_Bg_limb_19 ?_
      refine lv_land S.1 S.2.1 d_Bg_limb_22 ?_
      refine lv_goto (tgt := 27) S.1 S.2.1 d_Bg_limb_23 (by decide) ?_
      obtain rfl := Option.some.inj hf
      exact gx_rl S hr hlk hS hP hD d_Bg_limb_27
theorem d_Bg_isZero_0 : decode b_Bg_isZero 0 = .ok (.aload_n 0, 1) := by decide +kernel
theorem d_Bg_isZero_1 : decode b_Bg_isZero 1 = .ok (.getfield 13, 3) := by decide +kernel
theorem d_Bg_isZero_4 : decode b_Bg_isZero 4 = .ok (.ifCond .ne 7, 3) := by decide +kernel
theorem d_Bg_isZero_7 : decode b_Bg_isZero 7 = .ok (.iconst 1, 1) := by decide +kernel
theorem d_Bg_isZero_8 : decode b_Bg_isZero 8 = .ok (.goto 4, 3) := by decide +kernel
theorem d_Bg_isZero_11 : decode b_Bg_isZero 11 = .ok (.iconst 0, 1) := by decide +kernel
theorem d_Bg_isZero_12 : decode b_Bg_isZero 12 = .ok (.ireturn, 1) := by decide +kernel
theorem cal_Bg_isZero : gx_cal y_Bg_isZero b_Bg_isZero 1 (some .boolean) 0 := ⟨wd_836, wd_5, by decide +kernel⟩
def f_Bg_isZero (o_size : Int32) : Option (Int32) := if o_size = 0 then (some (1 : Int32)) else (some (0 : Int32))
set_option maxHeartbeats 4000000 in
set_option maxRecDepth 100000 in
theorem c_Bg_isZero (l : Launch) (z : State) (D : va_G) (g : Nat → ClassId) (o : Nat) (o_limbs_v : Value) (o_size : Int32) (r : Int32) (hf : f_Bg_isZero o_size = some r) : gx_Mi l z D g y_Bg_isZero b_Bg_isZero 1 .boolean ({ frames := 0, cells := 0, slots := 0, locals := 0 } : Room) [.ref o] [(o, .inr (1, [o_limbs_v, .int o_size]))] [(o, .inr (1, [o_limbs_v, .int o_size]))] r := by
  refine gx_go (by decide +kernel) rfl ?_
  intro p e s m below meth c ls S hr hlk hnm E hP hD hl
  have hS : va_S (va_A [(o, .inr (1, [o_limbs_v, .int o_size]))] s.heap.size) s.heap s.heap [] := va_S.rf
  have hl : lv_has ls 1 [(0, .ref o)] := hl
  have hf : (if o_size = 0 then (some (1 : Int32)) else (some (0 : Int32))) = some r := hf
  refine lv_aload_n S.1 S.2.1 d_Bg_isZero_0 rfl (lv_at hl 0 rfl) ?_
  refine gx_gf (v := .int o_size) S E hP 0 rfl rfl i_Bg 1 rfl wd_107 ⟨rfl, rfl, rfl⟩ rfl d_Bg_isZero_1 ?_
  refine lv_if_ne (tgt := 11) S.1 S.2.1 d_Bg_isZero_4 (by decide) (fun h => ?_) (fun h => ?_)
  ·
    have hf := gx_ifn h hf
    refine lv_iconst (v := 0) S.1 S.2.1 d_Bg_isZero_11 (by decide) ?_
    obtain rfl := Option.some.inj hf
    exact gx_rz S hr (by decide +kernel) hlk hS hP hD d_Bg_isZero_12
  ·
    have hf := gx_ifp h hf
    refine lv_iconst (v := 1) S.1 S.2.1 d_Bg_isZero_7 (by decide) ?_
    refine lv_goto (tgt := 12) S.1 S.2.1 d_Bg_isZero_8 (by decide) ?_
    obtain rfl := Option.some.inj hf
    exact gx_rz S hr (by decide +kernel) hlk hS hP hD d_Bg_isZero_12
theorem d_Bg_bitLength_0 : decode b_Bg_bitLength 0 = .ok (.aload_n 0, 1) := by decide +kernel
theorem d_Bg_bitLength_1 : decode b_Bg_bitLength 1 = .ok (.getfield 13, 3) := by decide +kernel
theorem d_Bg_bitLength_4 : decode b_Bg_bitLength 4 = .ok (.bipush 32, 2) := by decide +kernel
theorem d_Bg_bitLength_6 : decode b_Bg_bitLength 6 = .ok (.imul, 1) := by decide +kernel
theorem d_Bg_bitLength_7 : decode b_Bg_bitLength 7 = .ok (.aload_n 0, 1) := by decide +kernel
theorem d_Bg_bitLength_8 : decode b_Bg_bitLength 8 = .ok (.getfield 13, 3) := by decide +kernel
theorem d_Bg_bitLength_11 : decode b_Bg_bitLength 11 = .ok (.ifCond .ne 7, 3) := by decide +kernel
theorem d_Bg_bitLength_14 : decode b_Bg_bitLength 14 = .ok (.iconst 0, 1) := by decide +kernel
theorem d_Bg_bitLength_15 : decode b_Bg_bitLength 15 = .ok (.goto 17, 3) := by decide +kernel
theorem d_Bg_bitLength_18 : decode b_Bg_bitLength 18 = .ok (.aload_n 0, 1) := by decide +kernel
theorem d_Bg_bitLength_19 : decode b_Bg_bitLength 19 = .ok (.getfield 9, 3) := by decide +kernel
theorem d_Bg_bitLength_22 : decode b_Bg_bitLength 22 = .ok (.aload_n 0, 1) := by decide +kernel
theorem d_Bg_bitLength_23 : decode b_Bg_bitLength 23 = .ok (.getfield 13, 3) := by decide +kernel
theorem d_Bg_bitLength_26 : decode b_Bg_bitLength 26 = .ok (.iconst 1, 1) := by decide +kernel
theorem d_Bg_bitLength_27 : decode b_Bg_bitLength 27 = .ok (.isub, 1) := by decide +kernel
theorem d_Bg_bitLength_28 : decode b_Bg_bitLength 28 = .ok (.iaload, 1) := by decide +kernel
theorem d_Bg_bitLength_29 : decode b_Bg_bitLength 29 = .ok (.invokestatic 19, 3) := by decide +kernel
theorem d_Bg_bitLength_32 : decode b_Bg_bitLength 32 = .ok (.isub, 1) := by decide +kernel
theorem d_Bg_bitLength_33 : decode b_Bg_bitLength 33 = .ok (.ireturn, 1) := by decide +kernel
theorem cal_Bg_bitLength : gx_cal y_Bg_bitLength b_Bg_bitLength 1 (some .int) 0 := ⟨wd_542, wd_5, by decide +kernel⟩
def f_Bg_bitLength (o_size : Int32) (o_limbs_c : Nat → Int32) : Option (Int32) := if o_size = 0 then (some ((o_size * (32 : Int32)) - (0 : Int32))) else (if gx_ok (o_size - (1 : Int32)) 96 = true then (f_JInt_numberOfLeadingZeros (o_limbs_c (o_size - (1 : Int32)).toNatClampNeg)).bind fun u29 => some ((o_size * (32 : Int32)) - u29) else none)
set_option maxHeartbeats 4000000 in
set_option maxRecDepth 100000 in
theorem c_Bg_bitLength (l : Launch) (z : State) (D : va_G) (g : Nat → ClassId) (o : Nat) (o_limbs : Nat) (o_size : Int32) (o_limbs_c : Nat → Int32) (r : Int32) (hf : f_Bg_bitLength o_size o_limbs_c = some r) : gx_Mi l z D g y_Bg_bitLength b_Bg_bitLength 1 .int ({ frames := 1, cells := 0, slots := 0, locals := 21 } : Room) [.ref o] [(o, .inr (1, [.ref o_limbs, .int o_size])), (o_limbs, .inl (g 0, 96, .inl o_limbs_c))] [(o, .inr (1, [.ref o_limbs, .int o_size])), (o_limbs, .inl (g 0, 96, .inl o_limbs_c))] r := by
  refine gx_go (by decide +kernel) rfl ?_
  intro p e s m below meth c ls S hr hlk hnm E hP hD hl
  have hS : va_S (va_A [(o, .inr (1, [.ref o_limbs, .int o_size])), (o_limbs, .inl (g 0, 96, .inl o_limbs_c))] s.heap.size) s.heap s.heap [] := va_S.rf
  have hl : lv_has ls 1 [(0, .ref o)] := hl
  have hf : (if o_size = 0 then (some ((o_size * (32 : Int32)) - (0 : Int32))) else (if gx_ok (o_size - (1 : Int32)) 96 = true then (f_JInt_numberOfLeadingZeros (o_limbs_c (o_size - (1 : Int32)).toNatClampNeg)).bind fun u29 => some ((o_size * (32 : Int32)) - u29) else none)) = some r := hf
  refine lv_aload_n S.1 S.2.1 d_Bg_bitLength_0 rfl (lv_at hl 0 rfl) ?_
  refine gx_gf (v := .int o_size) S E hP 0 rfl rfl i_Bg 1 rfl wd_107 ⟨rfl, rfl, rfl⟩ rfl d_Bg_bitLength_1 ?_
  refine lv_bipush (v := 32) S.1 S.2.1 d_Bg_bitLength_4 (by decide) ?_
  refine lv_imul S.1 S.2.1 d_Bg_bitLength_6 ?_
  refine lv_aload_n S.1 S.2.1 d_Bg_bitLength_7 rfl (lv_at hl 0 rfl) ?_
  refine gx_gf (v := .int o_size) S E hP 0 rfl rfl i_Bg 1 rfl wd_107 ⟨rfl, rfl, rfl⟩ rfl d_Bg_bitLength_8 ?_
  refine lv_if_ne (tgt := 18) S.1 S.2.1 d_Bg_bitLength_11 (by decide) (fun h => ?_) (fun h => ?_)
  ·
    have hf := gx_ifn h hf
    refine lv_aload_n S.1 S.2.1 d_Bg_bitLength_18 rfl (lv_at hl 0 rfl) ?_
    refine gx_gf (v := .ref o_limbs) S E hP 0 rfl rfl i_Bg 0 rfl wd_106 ⟨rfl, rfl, rfl⟩ rfl d_Bg_bitLength_19 ?_
    refine lv_aload_n S.1 S.2.1 d_Bg_bitLength_22 rfl (lv_at hl 0 rfl) ?_
    refine gx_gf (v := .int o_size) S E hP 0 rfl rfl i_Bg 1 rfl wd_107 ⟨rfl, rfl, rfl⟩ rfl d_Bg_bitLength_23 ?_
    refine lv_iconst (v := 1) S.1 S.2.1 d_Bg_bitLength_26 (by decide) ?_
    refine lv_isub S.1 S.2.1 d_Bg_bitLength_27 ?_
    obtain ⟨hin, hf⟩ := gx_chk hf
    refine va_iald S.1 S.2.1 E.1.1 hP 1 0 rfl rfl (gx_okv hin) d_Bg_bitLength_28 ?_
    obtain ⟨u29, hc29, hf⟩ := gx_bnd hf
    refine gx_Si S E hS hP hD (c_JInt_numberOfLeadingZeros l z D g (o_limbs_c (o_size - (1 : Int32)).toNatClampNeg) u29 hc29) cal_JInt_numberOfLeadingZeros wd_493 wd_543 rfl [] rfl rfl rfl rfl hl.1 rfl d_Bg_bitLength_29 ⟨Nat.zero_le _, Nat.zero_le _⟩ (fun H locs hS hP hD => ?_)
    have hP : va_P D vwC [(o, .inr (1, [.ref o_limbs, .int o_size])), (o_limbs, .inl (g 0, 96, .inl o_limbs_c))] H := hP
    have hD : va_D (va_A [(o, .inr (1, [.ref o_limbs, .int o_size])), (o_limbs, .inl (g 0, 96, .inl o_limbs_c))] s.heap.size) [(o, .inr (1, [.ref o_limbs, .int o_size])), (o_limbs, .inl (g 0, 96, .inl o_limbs_c))] := hD
    refine lv_isub S.1 S.2.1 d_Bg_bitLength_32 ?_
    obtain rfl := Option.some.inj hf
    exact gx_ri S hr hlk hS hP hD d_Bg_bitLength_33
  ·
    have hf := gx_ifp h hf
    refine lv_iconst (v := 0) S.1 S.2.1 d_Bg_bitLength_14 (by decide) ?_
    refine lv_goto (tgt := 32) S.1 S.2.1 d_Bg_bitLength_15 (by decide) ?_
    refine lv_isub S.1 S.2.1 d_Bg_bitLength_32 ?_
    obtain rfl := Option.some.inj hf
    exact gx_ri S hr hlk hS hP hD d_Bg_bitLength_33
theorem d_Bg_trim_0 : decode b_Bg_trim 0 = .ok (.aload_n 0, 1) := by decide +kernel
theorem d_Bg_trim_1 : decode b_Bg_trim 1 = .ok (.getfield 13, 3) := by decide +kernel
theorem d_Bg_trim_4 : decode b_Bg_trim 4 = .ok (.istore_n 1, 1) := by decide +kernel
theorem d_Bg_trim_5 : decode b_Bg_trim 5 = .ok (.iload_n 1, 1) := by decide +kernel
theorem d_Bg_trim_6 : decode b_Bg_trim 6 = .ok (.ifCond .le 27, 3) := by decide +kernel
theorem d_Bg_trim_9 : decode b_Bg_trim 9 = .ok (.aload_n 0, 1) := by decide +kernel
theorem d_Bg_trim_10 : decode b_Bg_trim 10 = .ok (.getfield 9, 3) := by decide +kernel
theorem d_Bg_trim_13 : decode b_Bg_trim 13 = .ok (.iload_n 1, 1) := by decide +kernel
theorem d_Bg_trim_14 : decode b_Bg_trim 14 = .ok (.iconst 1, 1) := by decide +kernel
theorem d_Bg_trim_15 : decode b_Bg_trim 15 = .ok (.isub, 1) := by decide +kernel
theorem d_Bg_trim_16 : decode b_Bg_trim 16 = .ok (.iaload, 1) := by decide +kernel
theorem d_Bg_trim_17 : decode b_Bg_trim 17 = .ok (.ifCond .ne 16, 3) := by decide +kernel
theorem d_Bg_trim_20 : decode b_Bg_trim 20 = .ok (.aload_n 0, 1) := by decide +kernel
theorem d_Bg_trim_21 : decode b_Bg_trim 21 = .ok (.iload_n 1, 1) := by decide +kernel
theorem d_Bg_trim_22 : decode b_Bg_trim 22 = .ok (.iconst 1, 1) := by decide +kernel
theorem d_Bg_trim_23 : decode b_Bg_trim 23 = .ok (.isub, 1) := by decide +kernel
theorem d_Bg_trim_24 : decode b_Bg_trim 24 = .ok (.putfield 13, 3) := by decide +kernel
theorem d_Bg_trim_27 : decode b_Bg_trim 27 = .ok (.iinc 1 (-1), 3) := by decide +kernel
theorem d_Bg_trim_30 : decode b_Bg_trim 30 = .ok (.goto (-25), 3) := by decide +kernel
theorem d_Bg_trim_33 : decode b_Bg_trim 33 = .ok (.return_, 1) := by decide +kernel
theorem cal_Bg_trim : gx_cal y_Bg_trim b_Bg_trim 2 none 0 := ⟨wd_509, wd_5, by decide +kernel⟩
def f_Bg_trim_5 : Nat → Int32 → Int32 → (Nat → Int32) → Option (Int32)
  | 0, _, _, _ => none
  | n + 1, v1, o_sizeq, o_limbs_c => if v1 ≤ 0 then (some o_sizeq) else (if gx_ok (v1 - (1 : Int32)) 96 = true then if (o_limbs_c (v1 - (1 : Int32)).toNatClampNeg) = 0 then (f_Bg_trim_5 n (v1 + (-1)) (v1 - (1 : Int32)) o_limbs_c) else (some o_sizeq) else none)
def f_Bg_trim (o_size : Int32) (o_limbs_c : Nat → Int32) : Option (Int32) := f_Bg_trim_5 gx_fu o_size o_size o_limbs_c
set_option maxHeartbeats 4000000 in
set_option maxRecDepth 100000 in
theorem c_Bg_trim (l : Launch) (z : State) (D : va_G) (g : Nat → ClassId) (o : Nat) (o_limbs : Nat) (o_size : Int32) (o_limbs_c : Nat → Int32) (r : Int32) (hf : f_Bg_trim o_size o_limbs_c = some r) : gx_Mv l z D g y_Bg_trim b_Bg_trim 2 ({ frames := 0, cells := 0, slots := 0, locals := 0 } : Room) [.ref o] [(o, .inr (1, [.ref o_limbs, .int o_size])), (o_limbs, .inl (g 0, 96, .inl o_limbs_c))] [(o, .inr (1, [.ref o_limbs, .int r])), (o_limbs, .inl (g 0, 96, .inl o_limbs_c))] := by
  refine gx_go (by decide +kernel) rfl ?_
  intro p e s m below meth c ls S hr hlk hnm E hP hD hl
  have hS : va_S (va_A [(o, .inr (1, [.ref o_limbs, .int o_size])), (o_limbs, .inl (g 0, 96, .inl o_limbs_c))] s.heap.size) s.heap s.heap [] := va_S.rf
  have hl : lv_has ls 2 [(0, .ref o)] := hl
  have c_5 : ∀ n : Nat, ∀ (v1 : Int32) (o_sizeq : Int32) (ls : Array Slot) (H : Heap) (locs : List Loc), lv_has ls 2 [(0, .ref o), (1, .int v1)] → va_S (va_A [(o, .inr (1, [.ref o_limbs, .int o_size])), (o_limbs, .inl (g 0, 96, .inl o_limbs_c))] s.heap.size) s.heap H locs → va_P D vwC [(o, .inr (1, [.ref o_limbs, .int o_sizeq])), (o_limbs, .inl (g 0, 96, .inl o_limbs_c))] H → va_D (va_A [(o, .inr (1, [.ref o_limbs, .int o_size])), (o_limbs, .inl (g 0, 96, .inl o_limbs_c))] s.heap.size) [(o, .inr (1, [.ref o_limbs, .int o_sizeq])), (o_limbs, .inl (g 0, 96, .inl o_limbs_c))] → (f_Bg_trim_5 n v1 o_sizeq o_limbs_c) = some r → W p l e ({ frames := 0, cells := 0, slots := 0, locals := 0 } : Room) s m ([.ref o] : List Value).toArray below meth c H locs 0 0 (MQ below (gx_Qv D [(o, .inr (1, [.ref o_limbs, .int o_size])), (o_limbs, .inl (g 0, 96, .inl o_limbs_c))] [(o, .inr (1, [.ref o_limbs, .int r])), (o_limbs, .inl (g 0, 96, .inl o_limbs_c))] s.heap.size) ([.ref o] : List Value).toArray s 0 0 (va_A [(o, .inr (1, [.ref o_limbs, .int o_size])), (o_limbs, .inl (g 0, 96, .inl o_limbs_c))] s.heap.size)) (F0 m 5 ls []) := by
    intro n
    induction n with
    | zero => intro v1 o_sizeq ls H locs hl hS hP hD hf; cases hf
    | succ n ih =>
      intro v1 o_sizeq ls H locs hl hS hP hD hf
      have hf : (if v1 ≤ 0 then (some o_sizeq) else (if gx_ok (v1 - (1 : Int32)) 96 = true then if (o_limbs_c (v1 - (1 : Int32)).toNatClampNeg) = 0 then (f_Bg_trim_5 n (v1 + (-1)) (v1 - (1 : Int32)) o_limbs_c) else (some o_sizeq) else none)) = some r := hf
      refine lv_iload_n S.1 S.2.1 d_Bg_trim_5 rfl (lv_at hl 1 rfl) ?_
      refine lv_if_le (tgt := 33) S.1 S.2.1 d_Bg_trim_6 (by decide) (fun h => ?_) (fun h => ?_)
      ·
        have hf := gx_ifp h hf
        obtain rfl := Option.some.inj hf
        exact gx_rv S hr hlk hS hP hD d_Bg_trim_33
      ·
        have hf := gx_ifn h hf
        refine lv_aload_n S.1 S.2.1 d_Bg_trim_9 rfl (lv_at hl 0 rfl) ?_
        refine gx_gf (v := .ref o_limbs) S E hP 0 rfl rfl i_Bg 0 rfl wd_106 ⟨rfl, rfl, rfl⟩ rfl d_Bg_trim_10 ?_
        refine lv_iload_n S.1 S.2.1 d_Bg_trim_13 rfl (lv_at hl 1 rfl) ?_
        refine lv_iconst (v := 1) S.1 S.2.1 d_Bg_trim_14 (by decide) ?_
        refine lv_isub S.1 S.2.1 d_Bg_trim_15 ?_
        obtain ⟨hin, hf⟩ := gx_chk hf
        refine va_iald S.1 S.2.1 E.1.1 hP 1 0 rfl rfl (gx_okv hin) d_Bg_trim_16 ?_
        refine lv_if_ne (tgt := 33) S.1 S.2.1 d_Bg_trim_17 (by decide) (fun h => ?_) (fun h => ?_)
        ·
          have hf := gx_ifn h hf
          obtain rfl := Option.some.inj hf
          exact gx_rv S hr hlk hS hP hD d_Bg_trim_33
        ·
          have hf := gx_ifp h hf
          refine lv_aload_n S.1 S.2.1 d_Bg_trim_20 rfl (lv_at hl 0 rfl) ?_
          refine lv_iload_n S.1 S.2.1 d_Bg_trim_21 rfl (lv_at hl 1 rfl) ?_
          refine lv_iconst (v := 1) S.1 S.2.1 d_Bg_trim_22 (by decide) ?_
          refine lv_isub S.1 S.2.1 d_Bg_trim_23 ?_
          refine gx_pf (v := .int (v1 - (1 : Int32))) S E hS hP hD 0 rfl rfl i_Bg k_Bg n_Bg 1 rfl wd_107 ⟨rfl, rfl, rfl, rfl⟩ rfl rfl rfl d_Bg_trim_24 (fun H locs hS hP hD => ?_)
          have hP : va_P D vwC [(o, .inr (1, [.ref o_limbs, .int (v1 - (1 : Int32))])), (o_limbs, .inl (g 0, 96, .inl o_limbs_c))] H := hP
          have hD : va_D (va_A [(o, .inr (1, [.ref o_limbs, .int o_size])), (o_limbs, .inl (g 0, 96, .inl o_limbs_c))] s.heap.size) [(o, .inr (1, [.ref o_limbs, .int (v1 - (1 : Int32))])), (o_limbs, .inl (g 0, 96, .inl o_limbs_c))] := hD
          refine lv_iinc (v := v1 + (-1)) (lv' := [(1, .int (v1 + (-1))), (0, .ref o)]) S.1 S.2.1 d_Bg_trim_27 hl (k := 1) rfl rfl (by decide) rfl (fun ls hl => ?_)
          refine lv_goto (tgt := 5) S.1 S.2.1 d_Bg_trim_30 (by decide) ?_
          exact ih (v1 + (-1)) (v1 - (1 : Int32)) ls _ _ (lv_sub hl [1, 0] rfl) hS hP hD hf
  have hf : (f_Bg_trim_5 gx_fu o_size o_size o_limbs_c) = some r := hf
  refine lv_aload_n S.1 S.2.1 d_Bg_trim_0 rfl (lv_at hl 0 rfl) ?_
  refine gx_gf (v := .int o_size) S E hP 0 rfl rfl i_Bg 1 rfl wd_107 ⟨rfl, rfl, rfl⟩ rfl d_Bg_trim_1 ?_
  refine lv_istore_n (lv' := [(1, .int o_size), (0, .ref o)]) S.1 S.2.1 d_Bg_trim_4 rfl hl (by decide) rfl (fun ls hl => ?_)
  exact c_5 gx_fu o_size o_size ls _ _ (lv_sub hl [1, 0] rfl) hS hP hD hf
theorem d_Bg_set_0 : decode b_Bg_set 0 = .ok (.aload_n 0, 1) := by decide +kernel
theorem d_Bg_set_1 : decode b_Bg_set 1 = .ok (.getfield 9, 3) := by decide +kernel
theorem d_Bg_set_4 : decode b_Bg_set 4 = .ok (.iconst 0, 1) := by decide +kernel
theorem d_Bg_set_5 : decode b_Bg_set 5 = .ok (.lload_n 1, 1) := by decide +kernel
theorem d_Bg_set_6 : decode b_Bg_set 6 = .ok (.l2i, 1) := by decide +kernel
theorem d_Bg_set_7 : decode b_Bg_set 7 = .ok (.iastore, 1) := by decide +kernel
theorem d_Bg_set_8 : decode b_Bg_set 8 = .ok (.aload_n 0, 1) := by decide +kernel
theorem d_Bg_set_9 : decode b_Bg_set 9 = .ok (.getfield 9, 3) := by decide +kernel
theorem d_Bg_set_12 : decode b_Bg_set 12 = .ok (.iconst 1, 1) := by decide +kernel
theorem d_Bg_set_13 : decode b_Bg_set 13 = .ok (.lload_n 1, 1) := by decide +kernel
theorem d_Bg_set_14 : decode b_Bg_set 14 = .ok (.bipush 32, 2) := by decide +kernel
theorem d_Bg_set_16 : decode b_Bg_set 16 = .ok (.lushr, 1) := by decide +kernel
theorem d_Bg_set_17 : decode b_Bg_set 17 = .ok (.l2i, 1) := by decide +kernel
theorem d_Bg_set_18 : decode b_Bg_set 18 = .ok (.iastore, 1) := by decide +kernel
theorem d_Bg_set_19 : decode b_Bg_set 19 = .ok (.aload_n 0, 1) := by decide +kernel
theorem d_Bg_set_20 : decode b_Bg_set 20 = .ok (.iconst 2, 1) := by decide +kernel
theorem d_Bg_set_21 : decode b_Bg_set 21 = .ok (.putfield 13, 3) := by decide +kernel
theorem d_Bg_set_24 : decode b_Bg_set 24 = .ok (.aload_n 0, 1) := by decide +kernel
theorem d_Bg_set_25 : decode b_Bg_set 25 = .ok (.invokevirtual 25, 3) := by decide +kernel
theorem d_Bg_set_28 : decode b_Bg_set 28 = .ok (.return_, 1) := by decide +kernel
theorem cal_Bg_set : gx_cal y_Bg_set b_Bg_set 3 none 1 := ⟨wd_505, wd_5, by decide +kernel⟩
def f_Bg_set (a1 : Int64) (o_size : Int32) (o_limbs_c : Nat → Int32) : Option (Int32 × (Nat → Int32)) := if gx_ok (0 : Int32) 96 = true then if gx_ok (1 : Int32) 96 = true then (f_Bg_trim (2 : Int32) (upd (upd o_limbs_c (0 : Int32).toNatClampNeg a1.toInt32) (1 : Int32).toNatClampNeg (((a1.toUInt64 >>> ((32 : Int32).toInt64.toUInt64 &&& Int64.toUInt64 63)).toInt64).toInt32))).bind fun u25 => some (u25, upd (upd o_limbs_c (0 : Int32).toNatClampNeg a1.toInt32) (1 : Int32).toNatClampNeg (((a1.toUInt64 >>> ((32 : Int32).toInt64.toUInt64 &&& Int64.toUInt64 63)).toInt64).toInt32)) else none else none
set_option maxHeartbeats 4000000 in
set_option maxRecDepth 100000 in
theorem c_Bg_set (l : Launch) (z : State) (D : va_G) (g : Nat → ClassId) (o : Nat) (o_limbs : Nat) (o_size : Int32) (o_limbs_c : Nat → Int32) (a1 : Int64) (r : Int32 × (Nat → Int32)) (hf : f_Bg_set a1 o_size o_limbs_c = some r) : gx_Mv l z D g y_Bg_set b_Bg_set 3 ({ frames := 1, cells := 0, slots := 0, locals := 21 } : Room) [.ref o, .long a1] [(o, .inr (1, [.ref o_limbs, .int o_size])), (o_limbs, .inl (g 0, 96, .inl o_limbs_c))] [(o, .inr (1, [.ref o_limbs, .int r.1])), (o_limbs, .inl (g 0, 96, .inl r.2))] := by
  refine gx_go (by decide +kernel) rfl ?_
  intro p e s m below meth c ls S hr hlk hnm E hP hD hl
  have hS : va_S (va_A [(o, .inr (1, [.ref o_limbs, .int o_size])), (o_limbs, .inl (g 0, 96, .inl o_limbs_c))] s.heap.size) s.heap s.heap [] := va_S.rf
  have hl : lv_has ls 3 [(0, .ref o), (1, .long a1)] := hl
  have hf : (if gx_ok (0 : Int32) 96 = true then if gx_ok (1 : Int32) 96 = true then (f_Bg_trim (2 : Int32) (upd (upd o_limbs_c (0 : Int32).toNatClampNeg a1.toInt32) (1 : Int32).toNatClampNeg (((a1.toUInt64 >>> ((32 : Int32).toInt64.toUInt64 &&& Int64.toUInt64 63)).toInt64).toInt32))).bind fun u25 => some (u25, upd (upd o_limbs_c (0 : Int32).toNatClampNeg a1.toInt32) (1 : Int32).toNatClampNeg (((a1.toUInt64 >>> ((32 : Int32).toInt64.toUInt64 &&& Int64.toUInt64 63)).toInt64).toInt32)) else none else none) = some r := hf
  refine lv_aload_n S.1 S.2.1 d_Bg_set_0 rfl (lv_at hl 0 rfl) ?_
  refine gx_gf (v := .ref o_limbs) S E hP 0 rfl rfl i_Bg 0 rfl wd_106 ⟨rfl, rfl, rfl⟩ rfl d_Bg_set_1 ?_
  refine lv_iconst (v := 0) S.1 S.2.1 d_Bg_set_4 (by decide) ?_
  refine lv_lload_n S.1 S.2.1 d_Bg_set_5 rfl (lv_at hl 1 rfl) ?_
  refine lv_l2i S.1 S.2.1 d_Bg_set_6 rfl ?_
  obtain ⟨hin, hf⟩ := gx_chk hf
  refine va_iast S.1 S.2.1 E.1.1 hP hD hS 1 0 rfl rfl (gx_okv hin) d_Bg_set_7 (fun H locs hP hD hS => ?_)
  have hP : va_P D vwC [(o, .inr (1, [.ref o_limbs, .int o_size])), (o_limbs, .inl (g 0, 96, .inl (upd o_limbs_c (0 : Int32).toNatClampNeg a1.toInt32)))] H := hP
  have hD : va_D (va_A [(o, .inr (1, [.ref o_limbs, .int o_size])), (o_limbs, .inl (g 0, 96, .inl o_limbs_c))] s.heap.size) [(o, .inr (1, [.ref o_limbs, .int o_size])), (o_limbs, .inl (g 0, 96, .inl (upd o_limbs_c (0 : Int32).toNatClampNeg a1.toInt32)))] := hD
  refine lv_aload_n S.1 S.2.1 d_Bg_set_8 rfl (lv_at hl 0 rfl) ?_
  refine gx_gf (v := .ref o_limbs) S E hP 0 rfl rfl i_Bg 0 rfl wd_106 ⟨rfl, rfl, rfl⟩ rfl d_Bg_set_9 ?_
  refine lv_iconst (v := 1) S.1 S.2.1 d_Bg_set_12 (by decide) ?_
  refine lv_lload_n S.1 S.2.1 d_Bg_set_13 rfl (lv_at hl 1 rfl) ?_
  refine lv_bipush (v := 32) S.1 S.2.1 d_Bg_set_14 (by decide) ?_
  refine lv_lushr S.1 S.2.1 d_Bg_set_16 rfl ?_
  refine lv_l2i S.1 S.2.1 d_Bg_set_17 rfl ?_
  obtain ⟨hin, hf⟩ := gx_chk hf
  refine va_iast S.1 S.2.1 E.1.1 hP hD hS 1 0 rfl rfl (gx_okv hin) d_Bg_set_18 (fun H locs hP hD hS => ?_)
  have hP : va_P D vwC [(o, .inr (1, [.ref o_limbs, .int o_size])), (o_limbs, .inl (g 0, 96, .inl (upd (upd o_limbs_c (0 : Int32).toNatClampNeg a1.toInt32) (1 : Int32).toNatClampNeg (((a1.toUInt64 >>> ((32 : Int32).toInt64.toUInt64 &&& Int64.toUInt64 63)).toInt64).toInt32))))] H := hP
  have hD : va_D (va_A [(o, .inr (1, [.ref o_limbs, .int o_size])), (o_limbs, .inl (g 0, 96, .inl o_limbs_c))] s.heap.size) [(o, .inr (1, [.ref o_limbs, .int o_size])), (o_limbs, .inl (g 0, 96, .inl (upd (upd o_limbs_c (0 : Int32).toNatClampNeg a1.toInt32) (1 : Int32).toNatClampNeg (((a1.toUInt64 >>> ((32 : Int32).toInt64.toUInt64 &&& Int64.toUInt64 63)).toInt64).toInt32))))] := hD
  refine lv_aload_n S.1 S.2.1 d_Bg_set_19 rfl (lv_at hl 0 rfl) ?_
  refine lv_iconst (v := 2) S.1 S.2.1 d_Bg_set_20 (by decide) ?_
  refine gx_pf (v := .int (2 : Int32)) S E hS hP hD 0 rfl rfl i_Bg k_Bg n_Bg 1 rfl wd_107 ⟨rfl, rfl, rfl, rfl⟩ rfl rfl rfl d_Bg_set_21 (fun H locs hS hP hD => ?_)
  have hP : va_P D vwC [(o, .inr (1, [.ref o_limbs, .int (2 : Int32)])), (o_limbs, .inl (g 0, 96, .inl (upd (upd o_limbs_c (0 : Int32).toNatClampNeg a1.toInt32) (1 : Int32).toNatClampNeg (((a1.toUInt64 >>> ((32 : Int32).toInt64.toUInt64 &&& Int64.toUInt64 63)).toInt64).toInt32))))] H := hP
  have hD : va_D (va_A [(o, .inr (1, [.ref o_limbs, .int o_size])), (o_limbs, .inl (g 0, 96, .inl o_limbs_c))] s.heap.size) [(o, .inr (1, [.ref o_limbs, .int (2 : Int32)])), (o_limbs, .inl (g 0, 96, .inl (upd (upd o_limbs_c (0 : Int32).toNatClampNeg a1.toInt32) (1 : Int32).toNatClampNeg (((a1.toUInt64 >>> ((32 : Int32).toInt64.toUInt64 &&& Int64.toUInt64 63)).toInt64).toInt32))))] := hD
  refine lv_aload_n S.1 S.2.1 d_Bg_set_24 rfl (lv_at hl 0 rfl) ?_
  obtain ⟨u25, hc25, hf⟩ := gx_bnd hf
  refine gx_Vv S E hS hP hD (c_Bg_trim l z D g o o_limbs (2 : Int32) (upd (upd o_limbs_c (0 : Int32).toNatClampNeg a1.toInt32) (1 : Int32).toNatClampNeg (((a1.toUInt64 >>> ((32 : Int32).toInt64.toUInt64 &&& Int64.toUInt64 63)).toInt64).toInt32)) u25 hc25) cal_Bg_trim wd_508 ws_1 wd_506 rfl [0, 1] rfl rfl rfl 0 rfl rfl rfl hl.1 rfl d_Bg_set_25 ⟨Nat.zero_le _, Nat.zero_le _⟩ (fun H locs hS hP hD => ?_)
  have hP : va_P D vwC [(o, .inr (1, [.ref o_limbs, .int u25])), (o_limbs, .inl (g 0, 96, .inl (upd (upd o_limbs_c (0 : Int32).toNatClampNeg a1.toInt32) (1 : Int32).toNatClampNeg (((a1.toUInt64 >>> ((32 : Int32).toInt64.toUInt64 &&& Int64.toUInt64 63)).toInt64).toInt32))))] H := hP
  have hD : va_D (va_A [(o, .inr (1, [.ref o_limbs, .int o_size])), (o_limbs, .inl (g 0, 96, .inl o_limbs_c))] s.heap.size) [(o, .inr (1, [.ref o_limbs, .int u25])), (o_limbs, .inl (g 0, 96, .inl (upd (upd o_limbs_c (0 : Int32).toNatClampNeg a1.toInt32) (1 : Int32).toNatClampNeg (((a1.toUInt64 >>> ((32 : Int32).toInt64.toUInt64 &&& Int64.toUInt64 63)).toInt64).toInt32))))] := hD
  obtain rfl := Option.some.inj hf
  exact gx_rv S hr hlk hS hP hD d_Bg_set_28
theorem d_Bg_timesPlus_0 : decode b_Bg_timesPlus 0 = .ok (.iload_n 2, 1) := by decide +kernel
theorem d_Bg_timesPlus_1 : decode b_Bg_timesPlus 1 = .ok (.i2l, 1) := by decide +kernel
theorem d_Bg_timesPlus_2 : decode b_Bg_timesPlus 2 = .ok (.lstore_n 3, 1) := by decide +kernel
theorem d_Bg_timesPlus_3 : decode b_Bg_timesPlus 3 = .ok (.iconst 0, 1) := by decide +kernel
theorem d_Bg_timesPlus_4 : decode b_Bg_timesPlus 4 = .ok (.istore 5, 2) := by decide +kernel
theorem d_Bg_timesPlus_6 : decode b_Bg_timesPlus 6 = .ok (.iload 5, 2) := by decide +kernel
theorem d_Bg_timesPlus_8 : decode b_Bg_timesPlus 8 = .ok (.aload_n 0, 1) := by decide +kernel
theorem d_Bg_timesPlus_9 : decode b_Bg_timesPlus 9 = .ok (.getfield 13, 3) := by decide +kernel
theorem d_Bg_timesPlus_12 : decode b_Bg_timesPlus 12 = .ok (.if_icmp .ge 41, 3) := by decide +kernel
theorem d_Bg_timesPlus_15 : decode b_Bg_timesPlus 15 = .ok (.lload_n 3, 1) := by decide +kernel
theorem d_Bg_timesPlus_16 : decode b_Bg_timesPlus 16 = .ok (.aload_n 0, 1) := by decide +kernel
theorem d_Bg_timesPlus_17 : decode b_Bg_timesPlus 17 = .ok (.getfield 9, 3) := by decide +kernel
theorem d_Bg_timesPlus_20 : decode b_Bg_timesPlus 20 = .ok (.iload 5, 2) := by decide +kernel
theorem d_Bg_timesPlus_22 : decode b_Bg_timesPlus 22 = .ok (.iaload, 1) := by decide +kernel
theorem d_Bg_timesPlus_23 : decode b_Bg_timesPlus 23 = .ok (.i2l, 1) := by decide +kernel
theorem d_Bg_timesPlus_24 : decode b_Bg_timesPlus 24 = .ok (.ldc2_w 17, 3) := by decide +kernel
theorem d_Bg_timesPlus_27 : decode b_Bg_timesPlus 27 = .ok (.land, 1) := by decide +kernel
theorem d_Bg_timesPlus_28 : decode b_Bg_timesPlus 28 = .ok (.iload_n 1, 1) := by decide +kernel
theorem d_Bg_timesPlus_29 : decode b_Bg_timesPlus 29 = .ok (.i2l, 1) := by decide +kernel
theorem d_Bg_timesPlus_30 : decode b_Bg_timesPlus 30 = .ok (.lmul, 1) := by decide +kernel
theorem d_Bg_timesPlus_31 : decode b_Bg_timesPlus 31 = .ok (.ladd, 1) := by decide +kernel
theorem d_Bg_timesPlus_32 : decode b_Bg_timesPlus 32 = .ok (.lstore_n 3, 1) := by decide +kernel
theorem d_Bg_timesPlus_33 : decode b_Bg_timesPlus 33 = .ok (.aload_n 0, 1) := by decide +kernel
theorem d_Bg_timesPlus_34 : decode b_Bg_timesPlus 34 = .ok (.getfield 9, 3) := by decide +kernel
theorem d_Bg_timesPlus_37 : decode b_Bg_timesPlus 37 = .ok (.iload 5, 2) := by decide +kernel
theorem d_Bg_timesPlus_39 : decode b_Bg_timesPlus 39 = .ok (.lload_n 3, 1) := by decide +kernel
theorem d_Bg_timesPlus_40 : decode b_Bg_timesPlus 40 = .ok (.l2i, 1) := by decide +kernel
theorem d_Bg_timesPlus_41 : decode b_Bg_timesPlus 41 = .ok (.iastore, 1) := by decide +kernel
theorem d_Bg_timesPlus_42 : decode b_Bg_timesPlus 42 = .ok (.lload_n 3, 1) := by decide +kernel
theorem d_Bg_timesPlus_43 : decode b_Bg_timesPlus 43 = .ok (.bipush 32, 2) := by decide +kernel
theorem d_Bg_timesPlus_45 : decode b_Bg_timesPlus 45 = .ok (.lushr, 1) := by decide +kernel
theorem d_Bg_timesPlus_46 : decode b_Bg_timesPlus 46 = .ok (.lstore_n 3, 1) := by decide +kernel
theorem d_Bg_timesPlus_47 : decode b_Bg_timesPlus 47 = .ok (.iinc 5 1, 3) := by decide +kernel
theorem d_Bg_timesPlus_50 : decode b_Bg_timesPlus 50 = .ok (.goto (-44), 3) := by decide +kernel
theorem d_Bg_timesPlus_53 : decode b_Bg_timesPlus 53 = .ok (.lload_n 3, 1) := by decide +kernel
theorem d_Bg_timesPlus_54 : decode b_Bg_timesPlus 54 = .ok (.lconst 0, 1) := by decide +kernel
theorem d_Bg_timesPlus_55 : decode b_Bg_timesPlus 55 = .ok (.lcmp, 1) := by decide +kernel
theorem d_Bg_timesPlus_56 : decode b_Bg_timesPlus 56 = .ok (.ifCond .eq 33, 3) := by decide +kernel
theorem d_Bg_timesPlus_59 : decode b_Bg_timesPlus 59 = .ok (.aload_n 0, 1) := by decide +kernel
theorem d_Bg_timesPlus_60 : decode b_Bg_timesPlus 60 = .ok (.getfield 13, 3) := by decide +kernel
theorem d_Bg_timesPlus_63 : decode b_Bg_timesPlus 63 = .ok (.bipush 96, 2) := by decide +kernel
theorem d_Bg_timesPlus_65 : decode b_Bg_timesPlus 65 = .ok (.if_icmp .ge 24, 3) := by decide +kernel
theorem d_Bg_timesPlus_68 : decode b_Bg_timesPlus 68 = .ok (.aload_n 0, 1) := by decide +kernel
theorem d_Bg_timesPlus_69 : decode b_Bg_timesPlus 69 = .ok (.getfield 9, 3) := by decide +kernel
theorem d_Bg_timesPlus_72 : decode b_Bg_timesPlus 72 = .ok (.aload_n 0, 1) := by decide +kernel
theorem d_Bg_timesPlus_73 : decode b_Bg_timesPlus 73 = .ok (.getfield 13, 3) := by decide +kernel
theorem d_Bg_timesPlus_76 : decode b_Bg_timesPlus 76 = .ok (.lload_n 3, 1) := by decide +kernel
theorem d_Bg_timesPlus_77 : decode b_Bg_timesPlus 77 = .ok (.l2i, 1) := by decide +kernel
theorem d_Bg_timesPlus_78 : decode b_Bg_timesPlus 78 = .ok (.iastore, 1) := by decide +kernel
theorem d_Bg_timesPlus_79 : decode b_Bg_timesPlus 79 = .ok (.aload_n 0, 1) := by decide +kernel
theorem d_Bg_timesPlus_80 : decode b_Bg_timesPlus 80 = .ok (.dup, 1) := by decide +kernel
theorem d_Bg_timesPlus_81 : decode b_Bg_timesPlus 81 = .ok (.getfield 13, 3) := by decide +kernel
theorem d_Bg_timesPlus_84 : decode b_Bg_timesPlus 84 = .ok (.iconst 1, 1) := by decide +kernel
theorem d_Bg_timesPlus_85 : decode b_Bg_timesPlus 85 = .ok (.iadd, 1) := by decide +kernel
theorem d_Bg_timesPlus_86 : decode b_Bg_timesPlus 86 = .ok (.putfield 13, 3) := by decide +kernel
theorem d_Bg_timesPlus_89 : decode b_Bg_timesPlus 89 = .ok (.return_, 1) := by decide +kernel
theorem cal_Bg_timesPlus : gx_cal y_Bg_timesPlus b_Bg_timesPlus 6 none 2 := ⟨wd_519, wd_5, by decide +kernel⟩
def f_Bg_timesPlus_6 : Nat → Int32 → Int64 → Int32 → Int32 → (Nat → Int32) → Option (Int32 × (Nat → Int32))
  | 0, _, _, _, _, _ => none
  | n + 1, v1, v3, v5, o_sizeq, o_limbs_cq => if o_sizeq ≤ v5 then (if v3 = (0 : Int64) then (some (o_sizeq, o_limbs_cq)) else (if (96 : Int32) ≤ o_sizeq then (some (o_sizeq, o_limbs_cq)) else (if gx_ok o_sizeq 96 = true then some (o_sizeq + (1 : Int32), upd o_limbs_cq o_sizeq.toNatClampNeg v3.toInt32) else none))) else (if gx_ok v5 96 = true then if gx_ok v5 96 = true then f_Bg_timesPlus_6 n v1 (((v3 + ((((o_limbs_cq v5.toNatClampNeg).toInt64) &&& (4294967295 : Int64)) * v1.toInt64)).toUInt64 >>> ((32 : Int32).toInt64.toUInt64 &&& Int64.toUInt64 63)).toInt64) (v5 + 1) o_sizeq (upd o_limbs_cq v5.toNatClampNeg ((v3 + ((((o_limbs_cq v5.toNatClampNeg).toInt64) &&& (4294967295 : Int64)) * v1.toInt64)).toInt32)) else none else none)
def f_Bg_timesPlus (a1 : Int32) (a2 : Int32) (o_size : Int32) (o_limbs_c : Nat → Int32) : Option (Int32 × (Nat → Int32)) := f_Bg_timesPlus_6 gx_fu a1 a2.toInt64 (0 : Int32) o_size o_limbs_c
set_option maxHeartbeats 4000000 in
set_option maxRecDepth 100000 in
theorem c_Bg_timesPlus (l : Launch) (z : State) (D : va_G) (g : Nat → ClassId) (o : Nat) (o_limbs : Nat) (o_size : Int32) (o_limbs_c : Nat → Int32) (a1 : Int32) (a2 : Int32) (r : Int32 × (Nat → Int32)) (hf : f_Bg_timesPlus a1 a2 o_size o_limbs_c = some r) : gx_Mv l z D g y_Bg_timesPlus b_Bg_timesPlus 6 ({ frames := 0, cells := 0, slots := 0, locals := 0 } : Room) [.ref o, .int a1, .int a2] [(o, .inr (1, [.ref o_limbs, .int o_size])), (o_limbs, .inl (g 0, 96, .inl o_limbs_c))] [(o, .inr (1, [.ref o_limbs, .int r.1])), (o_limbs, .inl (g 0, 96, .inl r.2))] := by
  refine gx_go (by decide +kernel) rfl ?_
  intro p e s m below meth c ls S hr hlk hnm E hP hD hl
  have hS : va_S (va_A [(o, .inr (1, [.ref o_limbs, .int o_size])), (o_limbs, .inl (g 0, 96, .inl o_limbs_c))] s.heap.size) s.heap s.heap [] := va_S.rf
  have hl : lv_has ls 6 [(0, .ref o), (1, .int a1), (2, .int a2)] := hl
  have c_6 : ∀ n : Nat, ∀ (v1 : Int32) (v3 : Int64) (v5 : Int32) (o_sizeq : Int32) (o_limbs_cq : Nat → Int32) (ls : Array Slot) (H : Heap) (locs : List Loc), lv_has ls 6 [(0, .ref o), (1, .int v1), (3, .long v3), (5, .int v5)] → va_S (va_A [(o, .inr (1, [.ref o_limbs, .int o_size])), (o_limbs, .inl (g 0, 96, .inl o_limbs_c))] s.heap.size) s.heap H locs → va_P D vwC [(o, .inr (1, [.ref o_limbs, .int o_sizeq])), (o_limbs, .inl (g 0, 96, .inl o_limbs_cq))] H → va_D (va_A [(o, .inr (1, [.ref o_limbs, .int o_size])), (o_limbs, .inl (g 0, 96, .inl o_limbs_c))] s.heap.size) [(o, .inr (1, [.ref o_limbs, .int o_sizeq])), (o_limbs, .inl (g 0, 96, .inl o_limbs_cq))] → (f_Bg_timesPlus_6 n v1 v3 v5 o_sizeq o_limbs_cq) = some r → W p l e ({ frames := 0, cells := 0, slots := 0, locals := 0 } : Room) s m ([.ref o, .int a1, .int a2] : List Value).toArray below meth c H locs 0 0 (MQ below (gx_Qv D [(o, .inr (1, [.ref o_limbs, .int o_size])), (o_limbs, .inl (g 0, 96, .inl o_limbs_c))] [(o, .inr (1, [.ref o_limbs, .int r.1])), (o_limbs, .inl (g 0, 96, .inl r.2))] s.heap.size) ([.ref o, .int a1, .int a2] : List Value).toArray s 0 0 (va_A [(o, .inr (1, [.ref o_limbs, .int o_size])), (o_limbs, .inl (g 0, 96, .inl o_limbs_c))] s.heap.size)) (F0 m 6 ls []) := by
    intro n
    induction n with
    | zero => intro v1 v3 v5 o_sizeq o_limbs_cq ls H locs hl hS hP hD hf; cases hf
    | succ n ih =>
      intro v1 v3 v5 o_sizeq o_limbs_cq ls H locs hl hS hP hD hf
      have hf : (if o_sizeq ≤ v5 then (if v3 = (0 : Int64) then (some (o_sizeq, o_limbs_cq)) else (if (96 : Int32) ≤ o_sizeq then (some (o_sizeq, o_limbs_cq)) else (if gx_ok o_sizeq 96 = true then some (o_sizeq + (1 : Int32), upd o_limbs_cq o_sizeq.toNatClampNeg v3.toInt32) else none))) else (if gx_ok v5 96 = true then if gx_ok v5 96 = true then f_Bg_timesPlus_6 n v1 (((v3 + ((((o_limbs_cq v5.toNatClampNeg).toInt64) &&& (4294967295 : Int64)) * v1.toInt64)).toUInt64 >>> ((32 : Int32).toInt64.toUInt64 &&& Int64.toUInt64 63)).toInt64) (v5 + 1) o_sizeq (upd o_limbs_cq v5.toNatClampNeg ((v3 + ((((o_limbs_cq v5.toNatClampNeg).toInt64) &&& (4294967295 : Int64)) * v1.toInt64)).toInt32)) else none else none)) = some r := hf
      refine lv_iload S.1 S.2.1 d_Bg_timesPlus_6 (lv_at hl 3 rfl) ?_
      refine lv_aload_n S.1 S.2.1 d_Bg_timesPlus_8 rfl (lv_at hl 0 rfl) ?_
      refine gx_gf (v := .int o_sizeq) S E hP 0 rfl rfl i_Bg 1 rfl wd_107 ⟨rfl, rfl, rfl⟩ rfl d_Bg_timesPlus_9 ?_
      refine lv_icmp_ge (tgt := 53) S.1 S.2.1 d_Bg_timesPlus_12 (by decide) (fun h => ?_) (fun h => ?_)
      ·
        have hf := gx_ifp h hf
        refine lv_lload_n S.1 S.2.1 d_Bg_timesPlus_53 rfl (lv_at hl 2 rfl) ?_
        refine lv_lconst (v := 0) S.1 S.2.1 d_Bg_timesPlus_54 (by decide) ?_
        refine W.lcmp S.1 S.2.1 d_Bg_timesPlus_55 ?_
        refine lv_if_eq (tgt := 89) S.1 S.2.1 d_Bg_timesPlus_56 (by decide) (fun h => ?_) (fun h => ?_)
        ·
          have h : v3 = (0 : Int64) := (lg_cmp_eq _ _).mp h
          have hf := gx_ifp h hf
          obtain rfl := Option.some.inj hf
          exact gx_rv S hr hlk hS hP hD d_Bg_timesPlus_89
        ·
          have h : ¬ v3 = (0 : Int64) := fun q => h ((lg_cmp_eq _ _).mpr q)
          have hf := gx_ifn h hf
          refine lv_aload_n S.1 S.2.1 d_Bg_timesPlus_59 rfl (lv_at hl 0 rfl) ?_
          refine gx_gf (v := .int o_sizeq) S E hP 0 rfl rfl i_Bg 1 rfl wd_107 ⟨rfl, rfl, rfl⟩ rfl d_Bg_timesPlus_60 ?_
          refine lv_bipush (v := 96) S.1 S.2.1 d_Bg_timesPlus_63 (by decide) ?_
          refine lv_icmp_ge (tgt := 89) S.1 S.2.1 d_Bg_timesPlus_65 (by decide) (fun h => ?_) (fun h => ?_)
          ·
            have hf := gx_ifp h hf
            obtain rfl := Option.some.inj hf
            exact gx_rv S hr hlk hS hP hD d_Bg_timesPlus_89
          ·
            have hf := gx_ifn h hf
            refine lv_aload_n S.1 S.2.1 d_Bg_timesPlus_68 rfl (lv_at hl 0 rfl) ?_
            refine gx_gf (v := .ref o_limbs) S E hP 0 rfl rfl i_Bg 0 rfl wd_106 ⟨rfl, rfl, rfl⟩ rfl d_Bg_timesPlus_69 ?_
            refine lv_aload_n S.1 S.2.1 d_Bg_timesPlus_72 rfl (lv_at hl 0 rfl) ?_
            refine gx_gf (v := .int o_sizeq) S E hP 0 rfl rfl i_Bg 1 rfl wd_107 ⟨rfl, rfl, rfl⟩ rfl d_Bg_timesPlus_73 ?_
            refine lv_lload_n S.1 S.2.1 d_Bg_timesPlus_76 rfl (lv_at hl 2 rfl) ?_
            refine lv_l2i S.1 S.2.1 d_Bg_timesPlus_77 rfl ?_
            obtain ⟨hin, hf⟩ := gx_chk hf
            refine va_iast S.1 S.2.1 E.1.1 hP hD hS 1 0 rfl rfl (gx_okv hin) d_Bg_timesPlus_78 (fun H locs hP hD hS => ?_)
            have hP : va_P D vwC [(o, .inr (1, [.ref o_limbs, .int o_sizeq])), (o_limbs, .inl (g 0, 96, .inl (upd o_limbs_cq o_sizeq.toNatClampNeg v3.toInt32)))] H := hP
            have hD : va_D (va_A [(o, .inr (1, [.ref o_limbs, .int o_size])), (o_limbs, .inl (g 0, 96, .inl o_limbs_c))] s.heap.size) [(o, .inr (1, [.ref o_limbs, .int o_sizeq])), (o_limbs, .inl (g 0, 96, .inl (upd o_limbs_cq o_sizeq.toNatClampNeg v3.toInt32)))] := hD
            refine lv_aload_n S.1 S.2.1 d_Bg_timesPlus_79 rfl (lv_at hl 0 rfl) ?_
            refine lv_dup S.1 S.2.1 d_Bg_timesPlus_80 rfl ?_
            refine gx_gf (v := .int o_sizeq) S E hP 0 rfl rfl i_Bg 1 rfl wd_107 ⟨rfl, rfl, rfl⟩ rfl d_Bg_timesPlus_81 ?_
            refine lv_iconst (v := 1) S.1 S.2.1 d_Bg_timesPlus_84 (by decide) ?_
            refine lv_iadd S.1 S.2.1 d_Bg_timesPlus_85 ?_
            refine gx_pf (v := .int (o_sizeq + (1 : Int32))) S E hS hP hD 0 rfl rfl i_Bg k_Bg n_Bg 1 rfl wd_107 ⟨rfl, rfl, rfl, rfl⟩ rfl rfl rfl d_Bg_timesPlus_86 (fun H locs hS hP hD => ?_)
            have hP : va_P D vwC [(o, .inr (1, [.ref o_limbs, .int (o_sizeq + (1 : Int32))])), (o_limbs, .inl (g 0, 96, .inl (upd o_limbs_cq o_sizeq.toNatClampNeg v3.toInt32)))] H := hP
            have hD : va_D (va_A [(o, .inr (1, [.ref o_limbs, .int o_size])), (o_limbs, .inl (g 0, 96, .inl o_limbs_c))] s.heap.size) [(o, .inr (1, [.ref o_limbs, .int (o_sizeq + (1 : Int32))])), (o_limbs, .inl (g 0, 96, .inl (upd o_limbs_cq o_sizeq.toNatClampNeg v3.toInt32)))] := hD
            obtain rfl := Option.some.inj hf
            exact gx_rv S hr hlk hS hP hD d_Bg_timesPlus_89
      ·
        have hf := gx_ifn h hf
        refine lv_lload_n S.1 S.2.1 d_Bg_timesPlus_15 rfl (lv_at hl 2 rfl) ?_
        refine lv_aload_n S.1 S.2.1 d_Bg_timesPlus_16 rfl (lv_at hl 0 rfl) ?_
        refine gx_gf (v := .ref o_limbs) S E hP 0 rfl rfl i_Bg 0 rfl wd_106 ⟨rfl, rfl, rfl⟩ rfl d_Bg_timesPlus_17 ?_
        refine lv_iload S.1 S.2.1 d_Bg_timesPlus_20 (lv_at hl 3 rfl) ?_
        obtain ⟨hin, hf⟩ := gx_chk hf
        refine va_iald S.1 S.2.1 E.1.1 hP 1 0 rfl rfl (gx_okv hin) d_Bg_timesPlus_22 ?_
        refine lv_i2l S.1 S.2.1 d_Bg_timesPlus_23 rfl ?_
        refine lv_ldc2 (v := 4294967295) S.1 S.2.1 S.2.2.2.1 (S.2.2.2.2 _ wd_520) d_Bg_timesPlus_24 ?_
        refine lv_land S.1 S.2.1 d_Bg_timesPlus_27 ?_
        refine lv_iload_n S.1 S.2.1 d_Bg_timesPlus_28 rfl (lv_at hl 1 rfl) ?_
        refine lv_i2l S.1 S.2.1 d_Bg_timesPlus_29 rfl ?_
        refine lv_lmul S.1 S.2.1 d_Bg_timesPlus_30 ?_
        refine lv_ladd S.1 S.2.1 d_Bg_timesPlus_31 ?_
        refine lv_lstore_n (lv' := [(3, .long (v3 + ((((o_limbs_cq v5.toNatClampNeg).toInt64) &&& (4294967295 : Int64)) * v1.toInt64))), (0, .ref o), (1, .int v1), (5, .int v5)]) S.1 S.2.1 d_Bg_timesPlus_32 rfl hl (by decide) rfl (fun ls hl => ?_)
        refine lv_aload_n S.1 S.2.1 d_Bg_timesPlus_33 rfl (lv_at hl 1 rfl) ?_
        refine gx_gf (v := .ref o_limbs) S E hP 0 rfl rfl i_Bg 0 rfl wd_106 ⟨rfl, rfl, rfl⟩ rfl d_Bg_timesPlus_34 ?_
        refine lv_iload S.1 S.2.1 d_Bg_timesPlus_37 (lv_at hl 3 rfl) ?_
        refine lv_lload_n S.1 S.2.1 d_Bg_timesPlus_39 rfl (lv_at hl 0 rfl) ?_
        refine lv_l2i S.1 S.2.1 d_Bg_timesPlus_40 rfl ?_
        obtain ⟨hin, hf⟩ := gx_chk hf
        refine va_iast S.1 S.2.1 E.1.1 hP hD hS 1 0 rfl rfl (gx_okv hin) d_Bg_timesPlus_41 (fun H locs hP hD hS => ?_)
        have hP : va_P D vwC [(o, .inr (1, [.ref o_limbs, .int o_sizeq])), (o_limbs, .inl (g 0, 96, .inl (upd o_limbs_cq v5.toNatClampNeg ((v3 + ((((o_limbs_cq v5.toNatClampNeg).toInt64) &&& (4294967295 : Int64)) * v1.toInt64)).toInt32))))] H := hP
        have hD : va_D (va_A [(o, .inr (1, [.ref o_limbs, .int o_size])), (o_limbs, .inl (g 0, 96, .inl o_limbs_c))] s.heap.size) [(o, .inr (1, [.ref o_limbs, .int o_sizeq])), (o_limbs, .inl (g 0, 96, .inl (upd o_limbs_cq v5.toNatClampNeg ((v3 + ((((o_limbs_cq v5.toNatClampNeg).toInt64) &&& (4294967295 : Int64)) * v1.toInt64)).toInt32))))] := hD
        refine lv_lload_n S.1 S.2.1 d_Bg_timesPlus_42 rfl (lv_at hl 0 rfl) ?_
        refine lv_bipush (v := 32) S.1 S.2.1 d_Bg_timesPlus_43 (by decide) ?_
        refine lv_lushr S.1 S.2.1 d_Bg_timesPlus_45 rfl ?_
        refine lv_lstore_n (lv' := [(3, .long (((v3 + ((((o_limbs_cq v5.toNatClampNeg).toInt64) &&& (4294967295 : Int64)) * v1.toInt64)).toUInt64 >>> ((32 : Int32).toInt64.toUInt64 &&& Int64.toUInt64 63)).toInt64)), (0, .ref o), (1, .int v1), (5, .int v5)]) S.1 S.2.1 d_Bg_timesPlus_46 rfl hl (by decide) rfl (fun ls hl => ?_)
        refine lv_iinc (v := v5 + 1) (lv' := [(5, .int (v5 + 1)), (3, .long (((v3 + ((((o_limbs_cq v5.toNatClampNeg).toInt64) &&& (4294967295 : Int64)) * v1.toInt64)).toUInt64 >>> ((32 : Int32).toInt64.toUInt64 &&& Int64.toUInt64 63)).toInt64)), (0, .ref o), (1, .int v1)]) S.1 S.2.1 d_Bg_timesPlus_47 hl (k := 3) rfl rfl (by decide) rfl (fun ls hl => ?_)
        refine lv_goto (tgt := 6) S.1 S.2.1 d_Bg_timesPlus_50 (by decide) ?_
        exact ih v1 (((v3 + ((((o_limbs_cq v5.toNatClampNeg).toInt64) &&& (4294967295 : Int64)) * v1.toInt64)).toUInt64 >>> ((32 : Int32).toInt64.toUInt64 &&& Int64.toUInt64 63)).toInt64) (v5 + 1) o_sizeq (upd o_limbs_cq v5.toNatClampNeg ((v3 + ((((o_limbs_cq v5.toNatClampNeg).toInt64) &&& (4294967295 : Int64)) * v1.toInt64)).toInt32)) ls _ _ (lv_sub hl [2, 3, 1, 0] rfl) hS hP hD hf
  have hf : (f_Bg_timesPlus_6 gx_fu a1 a2.toInt64 (0 : Int32) o_size o_limbs_c) = some r := hf
  refine lv_iload_n S.1 S.2.1 d_Bg_timesPlus_0 rfl (lv_at hl 2 rfl) ?_
  refine lv_i2l S.1 S.2.1 d_Bg_timesPlus_1 rfl ?_
  refine lv_lstore_n (lv' := [(3, .long a2.toInt64), (0, .ref o), (1, .int a1), (2, .int a2)]) S.1 S.2.1 d_Bg_timesPlus_2 rfl hl (by decide) rfl (fun ls hl => ?_)
  refine lv_iconst (v := 0) S.1 S.2.1 d_Bg_timesPlus_3 (by decide) ?_
  refine lv_istore (lv' := [(5, .int (0 : Int32)), (3, .long a2.toInt64), (0, .ref o), (1, .int a1), (2, .int a2)]) S.1 S.2.1 d_Bg_timesPlus_4 hl (by decide) rfl (fun ls hl => ?_)
  exact c_6 gx_fu a1 a2.toInt64 (0 : Int32) o_size o_limbs_c ls _ _ (lv_sub hl [2, 3, 1, 0] rfl) hS hP hD hf
