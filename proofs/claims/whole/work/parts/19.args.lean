theorem d_Ar_held_0 : decode b_Ar_held 0 = .ok (.iload_n 0, 1) := by decide +kernel
theorem d_Ar_held_1 : decode b_Ar_held 1 = .ok (.iconst 1, 1) := by decide +kernel
theorem d_Ar_held_2 : decode b_Ar_held 2 = .ok (.if_icmp .ne 15, 3) := by decide +kernel
theorem d_Ar_held_5 : decode b_Ar_held 5 = .ok (.lload_n 1, 1) := by decide +kernel
theorem d_Ar_held_6 : decode b_Ar_held 6 = .ok (.lconst 1, 1) := by decide +kernel
theorem d_Ar_held_7 : decode b_Ar_held 7 = .ok (.lcmp, 1) := by decide +kernel
theorem d_Ar_held_8 : decode b_Ar_held 8 = .ok (.ifCond .ne 7, 3) := by decide +kernel
theorem d_Ar_held_11 : decode b_Ar_held 11 = .ok (.lconst 1, 1) := by decide +kernel
theorem d_Ar_held_12 : decode b_Ar_held 12 = .ok (.goto 4, 3) := by decide +kernel
theorem d_Ar_held_15 : decode b_Ar_held 15 = .ok (.lconst 0, 1) := by decide +kernel
theorem d_Ar_held_16 : decode b_Ar_held 16 = .ok (.lreturn, 1) := by decide +kernel
theorem d_Ar_held_17 : decode b_Ar_held 17 = .ok (.iload_n 0, 1) := by decide +kernel
theorem d_Ar_held_18 : decode b_Ar_held 18 = .ok (.iconst 3, 1) := by decide +kernel
theorem d_Ar_held_19 : decode b_Ar_held 19 = .ok (.if_icmp .eq 8, 3) := by decide +kernel
theorem d_Ar_held_22 : decode b_Ar_held 22 = .ok (.iload_n 0, 1) := by decide +kernel
theorem d_Ar_held_23 : decode b_Ar_held 23 = .ok (.iconst 5, 1) := by decide +kernel
theorem d_Ar_held_24 : decode b_Ar_held 24 = .ok (.if_icmp .ne 9, 3) := by decide +kernel
theorem d_Ar_held_27 : decode b_Ar_held 27 = .ok (.lload_n 1, 1) := by decide +kernel
theorem d_Ar_held_28 : decode b_Ar_held 28 = .ok (.l2i, 1) := by decide +kernel
theorem d_Ar_held_29 : decode b_Ar_held 29 = .ok (.i2l, 1) := by decide +kernel
theorem d_Ar_held_30 : decode b_Ar_held 30 = .ok (.goto 4, 3) := by decide +kernel
theorem d_Ar_held_33 : decode b_Ar_held 33 = .ok (.lload_n 1, 1) := by decide +kernel
theorem d_Ar_held_34 : decode b_Ar_held 34 = .ok (.lreturn, 1) := by decide +kernel
theorem cal_Ar_held : gx_cal y_Ar_held b_Ar_held 3 (some .long) 2 := ⟨wd_1045, wd_3, by decide +kernel⟩
def ww_Ar_held (g : Nat → ClassId)  : va_W := []
def f_Ar_held_27 (v1 : Int64) : Option (Int64) := some v1.toInt32.toInt64
def f_Ar_held (a1 : Int32) (a2 : Int64) : Option (Int64) := if a1 = (1 : Int32) then (if a2 = (1 : Int64) then (some (1 : Int64)) else (some (0 : Int64))) else (if a1 = (3 : Int32) then (f_Ar_held_27 a2) else (if a1 = (5 : Int32) then (f_Ar_held_27 a2) else (some a2)))
set_option maxHeartbeats 4000000 in
set_option maxRecDepth 100000 in
theorem c_Ar_held (l : Launch) (z : State) (D : va_G) (g : Nat → ClassId) (a1 : Int32) (a2 : Int64) (r : Int64) (hf : f_Ar_held a1 a2 = some r) : gx_Ml l z D g y_Ar_held b_Ar_held 3 .long ({ frames := 0, cells := 0, slots := 0, locals := 0 } : Room) [.int a1, .long a2] (ww_Ar_held g ) (ww_Ar_held g ) r := by
  refine gx_go (by decide +kernel) rfl ?_
  intro p e s m below meth c ls S hr hlk hnm E hP hD hl
  have hS : va_S (va_A (ww_Ar_held g ) s.heap.size) s.heap s.heap [] := va_S.rf
  have hl : lv_has ls 3 [(0, .int a1), (1, .long a2)] := hl
  have c_27 : ∀ (v1 : Int64) (ls : Array Slot) (H : Heap) (locs : List Loc), lv_has ls 3 [(1, .long v1)] → va_S (va_A (ww_Ar_held g ) s.heap.size) s.heap H locs → va_P D vwC (ww_Ar_held g ) H → va_D (va_A (ww_Ar_held g ) s.heap.size) (ww_Ar_held g ) → (f_Ar_held_27 v1) = some r → W p l e ({ frames := 0, cells := 0, slots := 0, locals := 0 } : Room) s m ([.int a1, .long a2] : List Value).toArray below meth c H locs 0 0 (MQ below (gx_Ql D (ww_Ar_held g ) (ww_Ar_held g ) r s.heap.size) ([.int a1, .long a2] : List Value).toArray s 0 0 (va_A (ww_Ar_held g ) s.heap.size)) (F0 m 27 ls []) := by
    intro v1 ls H locs hl hS hP hD hf
    have hf : (some v1.toInt32.toInt64) = some r := hf
    refine lv_lload_n S.1 S.2.1 d_Ar_held_27 rfl (lv_at hl 0 rfl) ?_
    refine lv_l2i S.1 S.2.1 d_Ar_held_28 rfl ?_
    refine lv_i2l S.1 S.2.1 d_Ar_held_29 rfl ?_
    refine lv_goto (tgt := 34) S.1 S.2.1 d_Ar_held_30 (by decide) ?_
    obtain rfl := Option.some.inj hf
    exact gx_rl S hr hlk hS hP hD d_Ar_held_34
  have hf : (if a1 = (1 : Int32) then (if a2 = (1 : Int64) then (some (1 : Int64)) else (some (0 : Int64))) else (if a1 = (3 : Int32) then (f_Ar_held_27 a2) else (if a1 = (5 : Int32) then (f_Ar_held_27 a2) else (some a2)))) = some r := hf
  refine lv_iload_n S.1 S.2.1 d_Ar_held_0 rfl (lv_at hl 0 rfl) ?_
  refine lv_iconst (v := 1) S.1 S.2.1 d_Ar_held_1 (by decide) ?_
  refine lv_icmp_ne (tgt := 17) S.1 S.2.1 d_Ar_held_2 (by decide) (fun h => ?_) (fun h => ?_)
  ·
    have hf := gx_ifn h hf
    refine lv_iload_n S.1 S.2.1 d_Ar_held_17 rfl (lv_at hl 0 rfl) ?_
    refine lv_iconst (v := 3) S.1 S.2.1 d_Ar_held_18 (by decide) ?_
    refine lv_icmp_eq (tgt := 27) S.1 S.2.1 d_Ar_held_19 (by decide) (fun h => ?_) (fun h => ?_)
    ·
      have hf := gx_ifp h hf
      exact c_27 a2 ls _ _ (lv_sub hl [1] rfl) hS hP hD hf
    ·
      have hf := gx_ifn h hf
      refine lv_iload_n S.1 S.2.1 d_Ar_held_22 rfl (lv_at hl 0 rfl) ?_
      refine lv_iconst (v := 5) S.1 S.2.1 d_Ar_held_23 (by decide) ?_
      refine lv_icmp_ne (tgt := 33) S.1 S.2.1 d_Ar_held_24 (by decide) (fun h => ?_) (fun h => ?_)
      ·
        have hf := gx_ifn h hf
        refine lv_lload_n S.1 S.2.1 d_Ar_held_33 rfl (lv_at hl 1 rfl) ?_
        obtain rfl := Option.some.inj hf
        exact gx_rl S hr hlk hS hP hD d_Ar_held_34
      ·
        have hf := gx_ifp h hf
        exact c_27 a2 ls _ _ (lv_sub hl [1] rfl) hS hP hD hf
  ·
    have hf := gx_ifp h hf
    refine lv_lload_n S.1 S.2.1 d_Ar_held_5 rfl (lv_at hl 1 rfl) ?_
    refine lv_lconst (v := 1) S.1 S.2.1 d_Ar_held_6 (by decide) ?_
    refine W.lcmp S.1 S.2.1 d_Ar_held_7 ?_
    refine lv_if_ne (tgt := 15) S.1 S.2.1 d_Ar_held_8 (by decide) (fun h => ?_) (fun h => ?_)
    ·
      have h : ¬ a2 = (1 : Int64) := fun q => h ((lg_cmp_eq _ _).mpr q)
      have hf := gx_ifn h hf
      refine lv_lconst (v := 0) S.1 S.2.1 d_Ar_held_15 (by decide) ?_
      obtain rfl := Option.some.inj hf
      exact gx_rl S hr hlk hS hP hD d_Ar_held_16
    ·
      have h : a2 = (1 : Int64) := (lg_cmp_eq _ _).mp h
      have hf := gx_ifp h hf
      refine lv_lconst (v := 1) S.1 S.2.1 d_Ar_held_11 (by decide) ?_
      refine lv_goto (tgt := 16) S.1 S.2.1 d_Ar_held_12 (by decide) ?_
      obtain rfl := Option.some.inj hf
      exact gx_rl S hr hlk hS hP hD d_Ar_held_16
theorem d_Ar_add_0 : decode b_Ar_add 0 = .ok (.aload_n 0, 1) := by decide +kernel
theorem d_Ar_add_1 : decode b_Ar_add 1 = .ok (.getfield 25, 3) := by decide +kernel
theorem d_Ar_add_4 : decode b_Ar_add 4 = .ok (.bipush 16, 2) := by decide +kernel
theorem d_Ar_add_6 : decode b_Ar_add 6 = .ok (.if_icmp .ge 37, 3) := by decide +kernel
theorem d_Ar_add_9 : decode b_Ar_add 9 = .ok (.aload_n 0, 1) := by decide +kernel
theorem d_Ar_add_10 : decode b_Ar_add 10 = .ok (.getfield 9, 3) := by decide +kernel
theorem d_Ar_add_13 : decode b_Ar_add 13 = .ok (.aload_n 0, 1) := by decide +kernel
theorem d_Ar_add_14 : decode b_Ar_add 14 = .ok (.getfield 25, 3) := by decide +kernel
theorem d_Ar_add_17 : decode b_Ar_add 17 = .ok (.iload_n 1, 1) := by decide +kernel
theorem d_Ar_add_18 : decode b_Ar_add 18 = .ok (.iastore, 1) := by decide +kernel
theorem d_Ar_add_19 : decode b_Ar_add 19 = .ok (.aload_n 0, 1) := by decide +kernel
theorem d_Ar_add_20 : decode b_Ar_add 20 = .ok (.getfield 15, 3) := by decide +kernel
theorem d_Ar_add_23 : decode b_Ar_add 23 = .ok (.aload_n 0, 1) := by decide +kernel
theorem d_Ar_add_24 : decode b_Ar_add 24 = .ok (.getfield 25, 3) := by decide +kernel
theorem d_Ar_add_27 : decode b_Ar_add 27 = .ok (.iload_n 1, 1) := by decide +kernel
theorem d_Ar_add_28 : decode b_Ar_add 28 = .ok (.lload_n 2, 1) := by decide +kernel
theorem d_Ar_add_29 : decode b_Ar_add 29 = .ok (.invokestatic 32, 3) := by decide +kernel
theorem d_Ar_add_32 : decode b_Ar_add 32 = .ok (.lastore, 1) := by decide +kernel
theorem d_Ar_add_33 : decode b_Ar_add 33 = .ok (.aload_n 0, 1) := by decide +kernel
theorem d_Ar_add_34 : decode b_Ar_add 34 = .ok (.dup, 1) := by decide +kernel
theorem d_Ar_add_35 : decode b_Ar_add 35 = .ok (.getfield 25, 3) := by decide +kernel
theorem d_Ar_add_38 : decode b_Ar_add 38 = .ok (.iconst 1, 1) := by decide +kernel
theorem d_Ar_add_39 : decode b_Ar_add 39 = .ok (.iadd, 1) := by decide +kernel
theorem d_Ar_add_40 : decode b_Ar_add 40 = .ok (.putfield 25, 3) := by decide +kernel
theorem d_Ar_add_43 : decode b_Ar_add 43 = .ok (.return_, 1) := by decide +kernel
theorem cal_Ar_add : gx_cal y_Ar_add b_Ar_add 4 none 2 := ⟨wd_1042, wd_3, by decide +kernel⟩
def ww_Ar_add (g : Nat → ClassId) (o : Nat) (o_kinds : Nat) (o_values : Nat) (x_o_kinds : Value) (x_o_values : Value) (x_o_texts : Value) (x_o_size : Int32) (y_o_kinds : Nat → Int32) (y_o_values : Nat → Int64) : va_W := [(o, .inr (0, [x_o_kinds, x_o_values, x_o_texts, .int x_o_size])), (o_kinds, .inl (g 0, 16, .inl y_o_kinds)), (o_values, .inl (g 2, 16, .inr (.inl y_o_values)))]
def f_Ar_add (a1 : Int32) (a2 : Int64) (o_size : Int32) (o_kinds_c : Nat → Int32) (o_values_c : Nat → Int64) : Option (Int32 × (Nat → Int32) × (Nat → Int64)) := if (16 : Int32) ≤ o_size then (some (o_size, o_kinds_c, o_values_c)) else (if gx_ok o_size 16 = true then (f_Ar_held a1 a2).bind fun u29 => if gx_ok o_size 16 = true then some (o_size + (1 : Int32), upd o_kinds_c o_size.toNatClampNeg a1, vp_updL o_values_c o_size.toNatClampNeg u29) else none else none)
set_option maxHeartbeats 4000000 in
set_option maxRecDepth 100000 in
theorem c_Ar_add (l : Launch) (z : State) (D : va_G) (g : Nat → ClassId) (o : Nat) (o_kinds : Nat) (o_values : Nat) (o_texts_v : Value) (o_size : Int32) (o_kinds_c : Nat → Int32) (o_values_c : Nat → Int64) (a1 : Int32) (a2 : Int64) (r : Int32 × (Nat → Int32) × (Nat → Int64)) (hf : f_Ar_add a1 a2 o_size o_kinds_c o_values_c = some r) : gx_Mv l z D g y_Ar_add b_Ar_add 4 ({ frames := 1, cells := 0, slots := 0, locals := 22 } : Room) [.ref o, .int a1, .long a2] (ww_Ar_add g o o_kinds o_values (.ref o_kinds) (.ref o_values) o_texts_v o_size o_kinds_c o_values_c) (ww_Ar_add g o o_kinds o_values (.ref o_kinds) (.ref o_values) o_texts_v r.1 r.2.1 r.2.2) := by
  refine gx_go (by decide +kernel) rfl ?_
  intro p e s m below meth c ls S hr hlk hnm E hP hD hl
  have hS : va_S (va_A (ww_Ar_add g o o_kinds o_values (.ref o_kinds) (.ref o_values) o_texts_v o_size o_kinds_c o_values_c) s.heap.size) s.heap s.heap [] := va_S.rf
  have hl : lv_has ls 4 [(0, .ref o), (1, .int a1), (2, .long a2)] := hl
  have hf : (if (16 : Int32) ≤ o_size then (some (o_size, o_kinds_c, o_values_c)) else (if gx_ok o_size 16 = true then (f_Ar_held a1 a2).bind fun u29 => if gx_ok o_size 16 = true then some (o_size + (1 : Int32), upd o_kinds_c o_size.toNatClampNeg a1, vp_updL o_values_c o_size.toNatClampNeg u29) else none else none)) = some r := hf
  refine lv_aload_n S.1 S.2.1 d_Ar_add_0 rfl (lv_at hl 0 rfl) ?_
  refine gx_gf (v := .int o_size) S E hP 0 rfl rfl i_Ar 3 rfl wd_80 ⟨rfl, rfl, rfl⟩ rfl d_Ar_add_1 ?_
  refine lv_bipush (v := 16) S.1 S.2.1 d_Ar_add_4 (by decide) ?_
  refine lv_icmp_ge (tgt := 43) S.1 S.2.1 d_Ar_add_6 (by decide) (fun h => ?_) (fun h => ?_)
  ·
    have hf := gx_ifp h hf
    obtain rfl := Option.some.inj hf
    exact gx_rv S hr hlk hS hP hD d_Ar_add_43
  ·
    have hf := gx_ifn h hf
    refine lv_aload_n S.1 S.2.1 d_Ar_add_9 rfl (lv_at hl 0 rfl) ?_
    refine gx_gf (v := .ref o_kinds) S E hP 0 rfl rfl i_Ar 0 rfl wd_74 ⟨rfl, rfl, rfl⟩ rfl d_Ar_add_10 ?_
    refine lv_aload_n S.1 S.2.1 d_Ar_add_13 rfl (lv_at hl 0 rfl) ?_
    refine gx_gf (v := .int o_size) S E hP 0 rfl rfl i_Ar 3 rfl wd_80 ⟨rfl, rfl, rfl⟩ rfl d_Ar_add_14 ?_
    refine lv_iload_n S.1 S.2.1 d_Ar_add_17 rfl (lv_at hl 1 rfl) ?_
    obtain ⟨hin, hf⟩ := gx_chk hf
    refine gx_iast (ws2 := (ww_Ar_add g o o_kinds o_values (.ref o_kinds) (.ref o_values) o_texts_v o_size (upd o_kinds_c o_size.toNatClampNeg a1) o_values_c)) S E hS hP hD 1 0 rfl rfl hin d_Ar_add_18 rfl (fun H locs hS hP hD => ?_)
    refine lv_aload_n S.1 S.2.1 d_Ar_add_19 rfl (lv_at hl 0 rfl) ?_
    refine gx_gf (v := .ref o_values) S E hP 0 rfl rfl i_Ar 1 rfl wd_76 ⟨rfl, rfl, rfl⟩ rfl d_Ar_add_20 ?_
    refine lv_aload_n S.1 S.2.1 d_Ar_add_23 rfl (lv_at hl 0 rfl) ?_
    refine gx_gf (v := .int o_size) S E hP 0 rfl rfl i_Ar 3 rfl wd_80 ⟨rfl, rfl, rfl⟩ rfl d_Ar_add_24 ?_
    refine lv_iload_n S.1 S.2.1 d_Ar_add_27 rfl (lv_at hl 1 rfl) ?_
    refine lv_lload_n S.1 S.2.1 d_Ar_add_28 rfl (lv_at hl 2 rfl) ?_
    obtain ⟨u29, hc29, hf⟩ := gx_bnd hf
    refine gx_Sl (ws2 := (ww_Ar_add g o o_kinds o_values (.ref o_kinds) (.ref o_values) o_texts_v o_size (upd o_kinds_c o_size.toNatClampNeg a1) o_values_c)) S E hS hP hD (c_Ar_held l z D g a1 a2 u29 hc29) cal_Ar_held wd_1044 wd_1043 rfl [] rfl rfl rfl rfl hl.1 rfl d_Ar_add_29 ⟨Nat.zero_le _, Nat.zero_le _⟩ rfl (fun H locs hS hP hD => ?_)
    obtain ⟨hin, hf⟩ := gx_chk hf
    refine gx_last (ws2 := (ww_Ar_add g o o_kinds o_values (.ref o_kinds) (.ref o_values) o_texts_v o_size (upd o_kinds_c o_size.toNatClampNeg a1) (vp_updL o_values_c o_size.toNatClampNeg u29))) S E hS hP hD 2 2 rfl rfl hin d_Ar_add_32 rfl (fun H locs hS hP hD => ?_)
    refine lv_aload_n S.1 S.2.1 d_Ar_add_33 rfl (lv_at hl 0 rfl) ?_
    refine lv_dup S.1 S.2.1 d_Ar_add_34 rfl ?_
    refine gx_gf (v := .int o_size) S E hP 0 rfl rfl i_Ar 3 rfl wd_80 ⟨rfl, rfl, rfl⟩ rfl d_Ar_add_35 ?_
    refine lv_iconst (v := 1) S.1 S.2.1 d_Ar_add_38 (by decide) ?_
    refine lv_iadd S.1 S.2.1 d_Ar_add_39 ?_
    refine gx_pf (v := .int (o_size + (1 : Int32))) (ws2 := (ww_Ar_add g o o_kinds o_values (.ref o_kinds) (.ref o_values) o_texts_v (o_size + (1 : Int32)) (upd o_kinds_c o_size.toNatClampNeg a1) (vp_updL o_values_c o_size.toNatClampNeg u29))) S E hS hP hD 0 rfl rfl i_Ar k_Ar n_Ar 3 rfl wd_80 ⟨rfl, rfl, rfl, rfl⟩ rfl rfl rfl d_Ar_add_40 rfl (fun H locs hS hP hD => ?_)
    obtain rfl := Option.some.inj hf
    exact gx_rv S hr hlk hS hP hD d_Ar_add_43
theorem d_Ar_addText_0 : decode b_Ar_addText 0 = .ok (.aload_n 0, 1) := by decide +kernel
theorem d_Ar_addText_1 : decode b_Ar_addText 1 = .ok (.getfield 25, 3) := by decide +kernel
theorem d_Ar_addText_4 : decode b_Ar_addText 4 = .ok (.bipush 16, 2) := by decide +kernel
theorem d_Ar_addText_6 : decode b_Ar_addText 6 = .ok (.if_icmp .ge 23, 3) := by decide +kernel
theorem d_Ar_addText_9 : decode b_Ar_addText 9 = .ok (.aload_n 0, 1) := by decide +kernel
theorem d_Ar_addText_10 : decode b_Ar_addText 10 = .ok (.getfield 21, 3) := by decide +kernel
theorem d_Ar_addText_13 : decode b_Ar_addText 13 = .ok (.aload_n 0, 1) := by decide +kernel
theorem d_Ar_addText_14 : decode b_Ar_addText 14 = .ok (.getfield 25, 3) := by decide +kernel
theorem d_Ar_addText_17 : decode b_Ar_addText 17 = .ok (.aaload, 1) := by decide +kernel
theorem d_Ar_addText_18 : decode b_Ar_addText 18 = .ok (.aload_n 1, 1) := by decide +kernel
theorem d_Ar_addText_19 : decode b_Ar_addText 19 = .ok (.invokevirtual 36, 3) := by decide +kernel
theorem d_Ar_addText_22 : decode b_Ar_addText 22 = .ok (.aload_n 0, 1) := by decide +kernel
theorem d_Ar_addText_23 : decode b_Ar_addText 23 = .ok (.bipush 7, 2) := by decide +kernel
theorem d_Ar_addText_25 : decode b_Ar_addText 25 = .ok (.lconst 0, 1) := by decide +kernel
theorem d_Ar_addText_26 : decode b_Ar_addText 26 = .ok (.invokevirtual 40, 3) := by decide +kernel
theorem d_Ar_addText_29 : decode b_Ar_addText 29 = .ok (.return_, 1) := by decide +kernel
theorem cal_Ar_addText : gx_cal y_Ar_addText b_Ar_addText 2 none 1 := ⟨wd_1056, wd_3, by decide +kernel⟩
def ww_Ar_addText (g : Nat → ClassId) (o : Nat) (o_texts : Nat) (a1 : Nat) (a1_row : Nat) (o_kinds : Nat) (o_values : Nat) (x_o_kinds : Value) (x_o_values : Value) (x_o_texts : Value) (x_o_size : Int32) (y_o_texts : Nat → Option Nat) (x_a1_row : Value) (x_a1_length : Int32) (x_a1_over : Int32) (a1_row_n : Nat) (y_a1_row : Nat → Int32) (y_o_kinds : Nat → Int32) (y_o_values : Nat → Int64) : va_W := [(o, .inr (0, [x_o_kinds, x_o_values, x_o_texts, .int x_o_size])), (o_texts, .inl (g 4, 16, .inr (.inr (.inr (.inr y_o_texts))))), (a1, .inr (3, [x_a1_row, .int x_a1_length, .int x_a1_over])), (a1_row, .inl (g 1, a1_row_n, .inl y_a1_row)), (o_kinds, .inl (g 0, 16, .inl y_o_kinds)), (o_values, .inl (g 2, 16, .inr (.inl y_o_values)))]
def f_Ar_addText (a1_row_n : Nat) (o_size : Int32) (a1_length : Int32) (a1_row_c : Nat → Int32) (o_kinds_c : Nat → Int32) (o_values_c : Nat → Int64) (o_texts_tl : Nat → Int32) (o_texts_tv : Nat → Int32) (o_texts_tc : Nat → Nat → Int32) : Option (Int32 × (Nat → Int32) × (Nat → Int64) × (Nat → Int32) × (Nat → Int32) × (Nat → Nat → Int32)) := if (16 : Int32) ≤ o_size then (some (o_size, o_kinds_c, o_values_c, o_texts_tl, o_texts_tv, o_texts_tc)) else (if gx_ok o_size 16 = true then (f_By_copy 200 a1_row_n (o_texts_tl (o_size.toNatClampNeg)) a1_length a1_row_c (o_texts_tv (o_size.toNatClampNeg)) (o_texts_tc (o_size.toNatClampNeg))).bind fun u19 => (f_Ar_add (7 : Int32) (0 : Int64) o_size o_kinds_c o_values_c).bind fun u26 => some (u26.1, u26.2.1, u26.2.2, va_up o_texts_tl (o_size.toNatClampNeg) u19.1, va_up o_texts_tv (o_size.toNatClampNeg) u19.2.1, va_up o_texts_tc (o_size.toNatClampNeg) u19.2.2) else none)
set_option maxHeartbeats 4000000 in
set_option maxRecDepth 100000 in
theorem c_Ar_addText (l : Launch) (z : State) (D : va_G) (g : Nat → ClassId) (o : Nat) (o_texts : Nat) (a1 : Nat) (a1_row : Nat) (o_kinds : Nat) (o_values : Nat) (o_size : Int32) (a1_length : Int32) (a1_over : Int32) (a1_row_n : Nat) (a1_row_c : Nat → Int32) (o_kinds_c : Nat → Int32) (o_values_c : Nat → Int64) (o_texts_a : Nat → Nat) (o_texts_b : Nat → Nat) (o_texts_tl : Nat → Int32) (o_texts_tv : Nat → Int32) (o_texts_tc : Nat → Nat → Int32) (r : Int32 × (Nat → Int32) × (Nat → Int64) × (Nat → Int32) × (Nat → Int32) × (Nat → Nat → Int32)) (hf : f_Ar_addText a1_row_n o_size a1_length a1_row_c o_kinds_c o_values_c o_texts_tl o_texts_tv o_texts_tc = some r) : gx_Mv l z D g y_Ar_addText b_Ar_addText 2 ({ frames := 3, cells := 0, slots := 0, locals := 73 } : Room) [.ref o, .ref a1] ((ww_Ar_addText g o o_texts a1 a1_row o_kinds o_values (.ref o_kinds) (.ref o_values) (.ref o_texts) o_size (fun j => some (o_texts_a j)) (.ref a1_row) a1_length a1_over a1_row_n a1_row_c o_kinds_c o_values_c) ++ gx_tx g o_texts_a o_texts_b o_texts_tl o_texts_tv o_texts_tc) ((ww_Ar_addText g o o_texts a1 a1_row o_kinds o_values (.ref o_kinds) (.ref o_values) (.ref o_texts) r.1 (fun j => some (o_texts_a j)) (.ref a1_row) a1_length a1_over a1_row_n a1_row_c r.2.1 r.2.2.1) ++ gx_tx g o_texts_a o_texts_b r.2.2.2.1 r.2.2.2.2.1 r.2.2.2.2.2) := by
  refine gx_go (by decide +kernel) rfl ?_
  intro p e s m below meth c ls S hr hlk hnm E hP hD hl
  have hS : va_S (va_A ((ww_Ar_addText g o o_texts a1 a1_row o_kinds o_values (.ref o_kinds) (.ref o_values) (.ref o_texts) o_size (fun j => some (o_texts_a j)) (.ref a1_row) a1_length a1_over a1_row_n a1_row_c o_kinds_c o_values_c) ++ gx_tx g o_texts_a o_texts_b o_texts_tl o_texts_tv o_texts_tc) s.heap.size) s.heap s.heap [] := va_S.rf
  have hl : lv_has ls 2 [(0, .ref o), (1, .ref a1)] := hl
  have hf : (if (16 : Int32) ≤ o_size then (some (o_size, o_kinds_c, o_values_c, o_texts_tl, o_texts_tv, o_texts_tc)) else (if gx_ok o_size 16 = true then (f_By_copy 200 a1_row_n (o_texts_tl (o_size.toNatClampNeg)) a1_length a1_row_c (o_texts_tv (o_size.toNatClampNeg)) (o_texts_tc (o_size.toNatClampNeg))).bind fun u19 => (f_Ar_add (7 : Int32) (0 : Int64) o_size o_kinds_c o_values_c).bind fun u26 => some (u26.1, u26.2.1, u26.2.2, va_up o_texts_tl (o_size.toNatClampNeg) u19.1, va_up o_texts_tv (o_size.toNatClampNeg) u19.2.1, va_up o_texts_tc (o_size.toNatClampNeg) u19.2.2) else none)) = some r := hf
  refine lv_aload_n S.1 S.2.1 d_Ar_addText_0 rfl (lv_at hl 0 rfl) ?_
  refine gx_gf (v := .int o_size) S E hP 0 rfl rfl i_Ar 3 rfl wd_80 ⟨rfl, rfl, rfl⟩ rfl d_Ar_addText_1 ?_
  refine lv_bipush (v := 16) S.1 S.2.1 d_Ar_addText_4 (by decide) ?_
  refine lv_icmp_ge (tgt := 29) S.1 S.2.1 d_Ar_addText_6 (by decide) (fun h => ?_) (fun h => ?_)
  ·
    have hf := gx_ifp h hf
    obtain rfl := Option.some.inj hf
    exact gx_rv S hr hlk hS hP hD d_Ar_addText_29
  ·
    have hf := gx_ifn h hf
    refine lv_aload_n S.1 S.2.1 d_Ar_addText_9 rfl (lv_at hl 0 rfl) ?_
    refine gx_gf (v := .ref o_texts) S E hP 0 rfl rfl i_Ar 2 rfl wd_78 ⟨rfl, rfl, rfl⟩ rfl d_Ar_addText_10 ?_
    refine lv_aload_n S.1 S.2.1 d_Ar_addText_13 rfl (lv_at hl 0 rfl) ?_
    refine gx_gf (v := .int o_size) S E hP 0 rfl rfl i_Ar 3 rfl wd_80 ⟨rfl, rfl, rfl⟩ rfl d_Ar_addText_14 ?_
    obtain ⟨hin, hf⟩ := gx_chk hf
    have hlt17 := gx_ok_lt hin
    refine gx_aald (x := o_texts_a o_size.toNatClampNeg) S.1 S.2.1 E.1.1 hP 1 4 rfl rfl (gx_okv hin) rfl d_Ar_addText_17 rfl ?_
    refine lv_aload_n S.1 S.2.1 d_Ar_addText_18 rfl (lv_at hl 1 rfl) ?_
    obtain ⟨u19, hc19, hf⟩ := gx_bnd hf
    refine gx_Vv (ws2 := ((ww_Ar_addText g o o_texts a1 a1_row o_kinds o_values (.ref o_kinds) (.ref o_values) (.ref o_texts) o_size (fun j => some (o_texts_a j)) (.ref a1_row) a1_length a1_over a1_row_n a1_row_c o_kinds_c o_values_c) ++ gx_tx g o_texts_a o_texts_b (va_up o_texts_tl (o_size.toNatClampNeg) u19.1) (va_up o_texts_tv (o_size.toNatClampNeg) u19.2.1) (va_up o_texts_tc (o_size.toNatClampNeg) u19.2.2))) S E hS hP hD (c_By_copy l z D g (o_texts_a (o_size.toNatClampNeg)) a1 (o_texts_b (o_size.toNatClampNeg)) a1_row (o_texts_tl (o_size.toNatClampNeg)) (o_texts_tv (o_size.toNatClampNeg)) a1_length a1_over 200 (o_texts_tc (o_size.toNatClampNeg)) a1_row_n a1_row_c u19 hc19) cal_By_copy wd_1058 wd_1059 wd_1057 rfl [6 + (2 * (o_size.toNatClampNeg)), 2, 6 + (2 * (o_size.toNatClampNeg) + 1), 3] (gx_map4 (gx_apr rfl (gx_tx_get hlt17).1) rfl (gx_apr rfl (gx_tx_get hlt17).2) rfl) (gx_nd4 (by omega) (by omega) (by omega) (by omega) (by omega) (by omega)) rfl (gx_rc E hP _ (gx_apr rfl (gx_tx_get hlt17).1) rfl) rfl hl.1 rfl d_Ar_addText_19 ⟨Nat.zero_le _, Nat.zero_le _⟩ ((gx_fs02 (b := 6) rfl (by decide) (by decide)).trans (gx_app rfl (gx_tx_set hlt17 _ _ _))) (fun H locs hS hP hD => ?_)
    refine lv_aload_n S.1 S.2.1 d_Ar_addText_22 rfl (lv_at hl 0 rfl) ?_
    refine lv_bipush (v := 7) S.1 S.2.1 d_Ar_addText_23 (by decide) ?_
    refine lv_lconst (v := 0) S.1 S.2.1 d_Ar_addText_25 (by decide) ?_
    obtain ⟨u26, hc26, hf⟩ := gx_bnd hf
    refine gx_Vv (ws2 := ((ww_Ar_addText g o o_texts a1 a1_row o_kinds o_values (.ref o_kinds) (.ref o_values) (.ref o_texts) u26.1 (fun j => some (o_texts_a j)) (.ref a1_row) a1_length a1_over a1_row_n a1_row_c u26.2.1 u26.2.2) ++ gx_tx g o_texts_a o_texts_b (va_up o_texts_tl (o_size.toNatClampNeg) u19.1) (va_up o_texts_tv (o_size.toNatClampNeg) u19.2.1) (va_up o_texts_tc (o_size.toNatClampNeg) u19.2.2))) S E hS hP hD (c_Ar_add l z D g o o_kinds o_values (.ref o_texts) o_size o_kinds_c o_values_c (7 : Int32) (0 : Int64) u26 hc26) cal_Ar_add wd_1040 wd_1041 wd_1063 rfl [0, 4, 5] rfl rfl rfl (gx_rc E hP 0 rfl rfl) rfl hl.1 rfl d_Ar_addText_26 ⟨Nat.zero_le _, Nat.zero_le _⟩ rfl (fun H locs hS hP hD => ?_)
    obtain rfl := Option.some.inj hf
    exact gx_rv S hr hlk hS hP hD d_Ar_addText_29
