theorem d_Fm_readNumber_0 : decode b_Fm_readNumber 0 = .ok (.iconst 0, 1) := by decide +kernel
theorem d_Fm_readNumber_1 : decode b_Fm_readNumber 1 = .ok (.istore_n 1, 1) := by decide +kernel
theorem d_Fm_readNumber_2 : decode b_Fm_readNumber 2 = .ok (.aload_n 0, 1) := by decide +kernel
theorem d_Fm_readNumber_3 : decode b_Fm_readNumber 3 = .ok (.getfield 50, 3) := by decide +kernel
theorem d_Fm_readNumber_6 : decode b_Fm_readNumber 6 = .ok (.aload_n 0, 1) := by decide +kernel
theorem d_Fm_readNumber_7 : decode b_Fm_readNumber 7 = .ok (.getfield 16, 3) := by decide +kernel
theorem d_Fm_readNumber_10 : decode b_Fm_readNumber 10 = .ok (.getfield 53, 3) := by decide +kernel
theorem d_Fm_readNumber_13 : decode b_Fm_readNumber 13 = .ok (.if_icmp .ge 59, 3) := by decide +kernel
theorem d_Fm_readNumber_16 : decode b_Fm_readNumber 16 = .ok (.aload_n 0, 1) := by decide +kernel
theorem d_Fm_readNumber_17 : decode b_Fm_readNumber 17 = .ok (.getfield 16, 3) := by decide +kernel
theorem d_Fm_readNumber_20 : decode b_Fm_readNumber 20 = .ok (.aload_n 0, 1) := by decide +kernel
theorem d_Fm_readNumber_21 : decode b_Fm_readNumber 21 = .ok (.getfield 50, 3) := by decide +kernel
theorem d_Fm_readNumber_24 : decode b_Fm_readNumber 24 = .ok (.invokevirtual 56, 3) := by decide +kernel
theorem d_Fm_readNumber_27 : decode b_Fm_readNumber 27 = .ok (.invokestatic 69, 3) := by decide +kernel
theorem d_Fm_readNumber_30 : decode b_Fm_readNumber 30 = .ok (.ifCond .eq 42, 3) := by decide +kernel
theorem d_Fm_readNumber_33 : decode b_Fm_readNumber 33 = .ok (.iload_n 1, 1) := by decide +kernel
theorem d_Fm_readNumber_34 : decode b_Fm_readNumber 34 = .ok (.bipush 10, 2) := by decide +kernel
theorem d_Fm_readNumber_36 : decode b_Fm_readNumber 36 = .ok (.imul, 1) := by decide +kernel
theorem d_Fm_readNumber_37 : decode b_Fm_readNumber 37 = .ok (.aload_n 0, 1) := by decide +kernel
theorem d_Fm_readNumber_38 : decode b_Fm_readNumber 38 = .ok (.getfield 16, 3) := by decide +kernel
theorem d_Fm_readNumber_41 : decode b_Fm_readNumber 41 = .ok (.aload_n 0, 1) := by decide +kernel
theorem d_Fm_readNumber_42 : decode b_Fm_readNumber 42 = .ok (.getfield 50, 3) := by decide +kernel
theorem d_Fm_readNumber_45 : decode b_Fm_readNumber 45 = .ok (.invokevirtual 56, 3) := by decide +kernel
theorem d_Fm_readNumber_48 : decode b_Fm_readNumber 48 = .ok (.iadd, 1) := by decide +kernel
theorem d_Fm_readNumber_49 : decode b_Fm_readNumber 49 = .ok (.bipush 48, 2) := by decide +kernel
theorem d_Fm_readNumber_51 : decode b_Fm_readNumber 51 = .ok (.isub, 1) := by decide +kernel
theorem d_Fm_readNumber_52 : decode b_Fm_readNumber 52 = .ok (.sipush 10000, 3) := by decide +kernel
theorem d_Fm_readNumber_55 : decode b_Fm_readNumber 55 = .ok (.invokestatic 89, 3) := by decide +kernel
theorem d_Fm_readNumber_58 : decode b_Fm_readNumber 58 = .ok (.istore_n 1, 1) := by decide +kernel
theorem d_Fm_readNumber_59 : decode b_Fm_readNumber 59 = .ok (.aload_n 0, 1) := by decide +kernel
theorem d_Fm_readNumber_60 : decode b_Fm_readNumber 60 = .ok (.dup, 1) := by decide +kernel
theorem d_Fm_readNumber_61 : decode b_Fm_readNumber 61 = .ok (.getfield 50, 3) := by decide +kernel
theorem d_Fm_readNumber_64 : decode b_Fm_readNumber 64 = .ok (.iconst 1, 1) := by decide +kernel
theorem d_Fm_readNumber_65 : decode b_Fm_readNumber 65 = .ok (.iadd, 1) := by decide +kernel
theorem d_Fm_readNumber_66 : decode b_Fm_readNumber 66 = .ok (.putfield 50, 3) := by decide +kernel
theorem d_Fm_readNumber_69 : decode b_Fm_readNumber 69 = .ok (.goto (-67), 3) := by decide +kernel
theorem d_Fm_readNumber_72 : decode b_Fm_readNumber 72 = .ok (.iload_n 1, 1) := by decide +kernel
theorem d_Fm_readNumber_73 : decode b_Fm_readNumber 73 = .ok (.ireturn, 1) := by decide +kernel
theorem cal_Fm_readNumber : gx_cal y_Fm_readNumber b_Fm_readNumber 2 (some .int) 0 := ⟨wd_1093, wd_11, by decide +kernel⟩
def ww_Fm_readNumber (g : Nat → ClassId) (o : Nat) (o_text : Nat) (o_text_row : Nat) (x_o_text : Value) (x_o_place : Value) (x_o_after : Value) (x_o_flags : Value) (x_o_width : Value) (x_o_precision : Value) (x_o_conversion : Value) (x_o_index : Value) (x_o_directives : Int32) (x_o_present : Int32) (x_o_at : Int32) (x_o_text_row : Value) (x_o_text_length : Int32) (x_o_text_over : Int32) (o_text_row_n : Nat) (y_o_text_row : Nat → Int32) : va_W := [(o, .inr (5, [x_o_text, x_o_place, x_o_after, x_o_flags, x_o_width, x_o_precision, x_o_conversion, x_o_index, .int x_o_directives, .int x_o_present, .int x_o_at])), (o_text, .inr (3, [x_o_text_row, .int x_o_text_length, .int x_o_text_over])), (o_text_row, .inl (g 1, o_text_row_n, .inl y_o_text_row))]
def f_Fm_readNumber_2 : Nat → Int32 → Nat → Int32 → Int32 → (Nat → Int32) → Option (Int32 × Int32)
  | 0, _, _, _, _, _ => none
  | n + 1, v1, o_text_row_n, o_atq, o_text_length, o_text_row_c => if o_text_length ≤ o_atq then (some (v1, o_atq)) else ((f_By_at o_atq o_text_row_n o_text_length o_text_row_c).bind fun u24 => (f_Nt_isDigit u24).bind fun u27 => if u27 = 0 then (some (v1, o_atq)) else ((f_By_at o_atq o_text_row_n o_text_length o_text_row_c).bind fun u45 => (f_JMath_min (((v1 * (10 : Int32)) + u45) - (48 : Int32)) (10000 : Int32)).bind fun u55 => f_Fm_readNumber_2 n u55 o_text_row_n (o_atq + (1 : Int32)) o_text_length o_text_row_c))
def f_Fm_readNumber (o_text_row_n : Nat) (o_at : Int32) (o_text_length : Int32) (o_text_row_c : Nat → Int32) : Option (Int32 × Int32) := f_Fm_readNumber_2 gx_fu (0 : Int32) o_text_row_n o_at o_text_length o_text_row_c
set_option maxHeartbeats 4000000 in
set_option maxRecDepth 100000 in
theorem c_Fm_readNumber (l : Launch) (z : State) (D : va_G) (g : Nat → ClassId) (o : Nat) (o_text : Nat) (o_text_row : Nat) (o_place_v : Value) (o_after_v : Value) (o_flags_v : Value) (o_width_v : Value) (o_precision_v : Value) (o_conversion_v : Value) (o_index_v : Value) (o_directives : Int32) (o_present : Int32) (o_at : Int32) (o_text_length : Int32) (o_text_over : Int32) (o_text_row_n : Nat) (o_text_row_c : Nat → Int32) (r : Int32 × Int32) (hf : f_Fm_readNumber o_text_row_n o_at o_text_length o_text_row_c = some r) : gx_Mi l z D g y_Fm_readNumber b_Fm_readNumber 2 .int ({ frames := 1, cells := 0, slots := 0, locals := 21 } : Room) [.ref o] (ww_Fm_readNumber g o o_text o_text_row (.ref o_text) o_place_v o_after_v o_flags_v o_width_v o_precision_v o_conversion_v o_index_v o_directives o_present o_at (.ref o_text_row) o_text_length o_text_over o_text_row_n o_text_row_c) (ww_Fm_readNumber g o o_text o_text_row (.ref o_text) o_place_v o_after_v o_flags_v o_width_v o_precision_v o_conversion_v o_index_v o_directives o_present r.2 (.ref o_text_row) o_text_length o_text_over o_text_row_n o_text_row_c) r.1 := by
  refine gx_go (by decide +kernel) rfl ?_
  intro p e s m below meth c ls S hr hlk hnm E hP hD hl
  have hS : va_S (va_A (ww_Fm_readNumber g o o_text o_text_row (.ref o_text) o_place_v o_after_v o_flags_v o_width_v o_precision_v o_conversion_v o_index_v o_directives o_present o_at (.ref o_text_row) o_text_length o_text_over o_text_row_n o_text_row_c) s.heap.size) s.heap s.heap [] := va_S.rf
  have hl : lv_has ls 2 [(0, .ref o)] := hl
  have c_2 : ∀ n : Nat, ∀ (v1 : Int32) (o_atq : Int32) (ls : Array Slot) (H : Heap) (locs : List Loc), lv_has ls 2 [(0, .ref o), (1, .int v1)] → va_S (va_A (ww_Fm_readNumber g o o_text o_text_row (.ref o_text) o_place_v o_after_v o_flags_v o_width_v o_precision_v o_conversion_v o_index_v o_directives o_present o_at (.ref o_text_row) o_text_length o_text_over o_text_row_n o_text_row_c) s.heap.size) s.heap H locs → va_P D vwC (ww_Fm_readNumber g o o_text o_text_row (.ref o_text) o_place_v o_after_v o_flags_v o_width_v o_precision_v o_conversion_v o_index_v o_directives o_present o_atq (.ref o_text_row) o_text_length o_text_over o_text_row_n o_text_row_c) H → va_D (va_A (ww_Fm_readNumber g o o_text o_text_row (.ref o_text) o_place_v o_after_v o_flags_v o_width_v o_precision_v o_conversion_v o_index_v o_directives o_present o_at (.ref o_text_row) o_text_length o_text_over o_text_row_n o_text_row_c) s.heap.size) (ww_Fm_readNumber g o o_text o_text_row (.ref o_text) o_place_v o_after_v o_flags_v o_width_v o_precision_v o_conversion_v o_index_v o_directives o_present o_atq (.ref o_text_row) o_text_length o_text_over o_text_row_n o_text_row_c) → (f_Fm_readNumber_2 n v1 o_text_row_n o_atq o_text_length o_text_row_c) = some r → W p l e ({ frames := 1, cells := 0, slots := 0, locals := 21 } : Room) s m ([.ref o] : List Value).toArray below meth c H locs 0 0 (MQ below (gx_Qi D (ww_Fm_readNumber g o o_text o_text_row (.ref o_text) o_place_v o_after_v o_flags_v o_width_v o_precision_v o_conversion_v o_index_v o_directives o_present o_at (.ref o_text_row) o_text_length o_text_over o_text_row_n o_text_row_c) (ww_Fm_readNumber g o o_text o_text_row (.ref o_text) o_place_v o_after_v o_flags_v o_width_v o_precision_v o_conversion_v o_index_v o_directives o_present r.2 (.ref o_text_row) o_text_length o_text_over o_text_row_n o_text_row_c) r.1 s.heap.size) ([.ref o] : List Value).toArray s 0 0 (va_A (ww_Fm_readNumber g o o_text o_text_row (.ref o_text) o_place_v o_after_v o_flags_v o_width_v o_precision_v o_conversion_v o_index_v o_directives o_present o_at (.ref o_text_row) o_text_length o_text_over o_text_row_n o_text_row_c) s.heap.size)) (F0 m 2 ls []) := by
    intro n
    induction n with
    | zero => intro v1 o_atq ls H locs hl hS hP hD hf; cases hf
    | succ n ih =>
      intro v1 o_atq ls H locs hl hS hP hD hf
      have hf : (if o_text_length ≤ o_atq then (some (v1, o_atq)) else ((f_By_at o_atq o_text_row_n o_text_length o_text_row_c).bind fun u24 => (f_Nt_isDigit u24).bind fun u27 => if u27 = 0 then (some (v1, o_atq)) else ((f_By_at o_atq o_text_row_n o_text_length o_text_row_c).bind fun u45 => (f_JMath_min (((v1 * (10 : Int32)) + u45) - (48 : Int32)) (10000 : Int32)).bind fun u55 => f_Fm_readNumber_2 n u55 o_text_row_n (o_atq + (1 : Int32)) o_text_length o_text_row_c))) = some r := hf
      refine lv_aload_n S.1 S.2.1 d_Fm_readNumber_2 rfl (lv_at hl 0 rfl) ?_
      refine gx_gf (v := .int o_atq) S E hP 0 rfl rfl i_Fm 10 rfl wd_280 ⟨rfl, rfl, rfl⟩ rfl d_Fm_readNumber_3 ?_
      refine lv_aload_n S.1 S.2.1 d_Fm_readNumber_6 rfl (lv_at hl 0 rfl) ?_
      refine gx_gf (v := .ref o_text) S E hP 0 rfl rfl i_Fm 0 rfl wd_260 ⟨rfl, rfl, rfl⟩ rfl d_Fm_readNumber_7 ?_
      refine gx_gf (v := .int o_text_length) S E hP 1 rfl rfl i_By 1 rfl wd_50 ⟨rfl, rfl, rfl⟩ rfl d_Fm_readNumber_10 ?_
      refine lv_icmp_ge (tgt := 72) S.1 S.2.1 d_Fm_readNumber_13 (by decide) (fun h => ?_) (fun h => ?_)
      ·
        have hf := gx_ifp h hf
        refine lv_iload_n S.1 S.2.1 d_Fm_readNumber_72 rfl (lv_at hl 1 rfl) ?_
        obtain rfl := Option.some.inj hf
        exact gx_ri S hr hlk hS hP hD d_Fm_readNumber_73
      ·
        have hf := gx_ifn h hf
        refine lv_aload_n S.1 S.2.1 d_Fm_readNumber_16 rfl (lv_at hl 0 rfl) ?_
        refine gx_gf (v := .ref o_text) S E hP 0 rfl rfl i_Fm 0 rfl wd_260 ⟨rfl, rfl, rfl⟩ rfl d_Fm_readNumber_17 ?_
        refine lv_aload_n S.1 S.2.1 d_Fm_readNumber_20 rfl (lv_at hl 0 rfl) ?_
        refine gx_gf (v := .int o_atq) S E hP 0 rfl rfl i_Fm 10 rfl wd_280 ⟨rfl, rfl, rfl⟩ rfl d_Fm_readNumber_21 ?_
        obtain ⟨u24, hc24, hf⟩ := gx_bnd hf
        refine gx_Vi (ws2 := (ww_Fm_readNumber g o o_text o_text_row (.ref o_text) o_place_v o_after_v o_flags_v o_width_v o_precision_v o_conversion_v o_index_v o_directives o_present o_atq (.ref o_text_row) o_text_length o_text_over o_text_row_n o_text_row_c)) S E hS hP hD (c_By_at l z D g o_text o_text_row o_text_length o_text_over o_text_row_n o_text_row_c o_atq u24 hc24) cal_By_at wd_752 wd_753 wd_1080 rfl [1, 2] rfl rfl rfl (gx_rc E hP 1 rfl rfl) rfl hl.1 rfl d_Fm_readNumber_24 ⟨Nat.zero_le _, Nat.zero_le _⟩ rfl (fun H locs hS hP hD => ?_)
        obtain ⟨u27, hc27, hf⟩ := gx_bnd hf
        refine gx_Ti (ws2 := (ww_Fm_readNumber g o o_text o_text_row (.ref o_text) o_place_v o_after_v o_flags_v o_width_v o_precision_v o_conversion_v o_index_v o_directives o_present o_atq (.ref o_text_row) o_text_length o_text_over o_text_row_n o_text_row_c)) S E hS hP hD (c_Nt_isDigit l z D g u24 u27 hc27) cal_Nt_isDigit wd_790 nst_12 rfl [] rfl rfl rfl rfl hl.1 rfl d_Fm_readNumber_27 ⟨Nat.zero_le _, Nat.zero_le _⟩ rfl (fun H locs hS hP hD => ?_)
        refine lv_if_eq (tgt := 72) S.1 S.2.1 d_Fm_readNumber_30 (by decide) (fun h => ?_) (fun h => ?_)
        ·
          have hf := gx_ifp h hf
          refine lv_iload_n S.1 S.2.1 d_Fm_readNumber_72 rfl (lv_at hl 1 rfl) ?_
          obtain rfl := Option.some.inj hf
          exact gx_ri S hr hlk hS hP hD d_Fm_readNumber_73
        ·
          have hf := gx_ifn h hf
          refine lv_iload_n S.1 S.2.1 d_Fm_readNumber_33 rfl (lv_at hl 1 rfl) ?_
          refine lv_bipush (v := 10) S.1 S.2.1 d_Fm_readNumber_34 (by decide) ?_
          refine lv_imul S.1 S.2.1 d_Fm_readNumber_36 ?_
          refine lv_aload_n S.1 S.2.1 d_Fm_readNumber_37 rfl (lv_at hl 0 rfl) ?_
          refine gx_gf (v := .ref o_text) S E hP 0 rfl rfl i_Fm 0 rfl wd_260 ⟨rfl, rfl, rfl⟩ rfl d_Fm_readNumber_38 ?_
          refine lv_aload_n S.1 S.2.1 d_Fm_readNumber_41 rfl (lv_at hl 0 rfl) ?_
          refine gx_gf (v := .int o_atq) S E hP 0 rfl rfl i_Fm 10 rfl wd_280 ⟨rfl, rfl, rfl⟩ rfl d_Fm_readNumber_42 ?_
          obtain ⟨u45, hc45, hf⟩ := gx_bnd hf
          refine gx_Vi (ws2 := (ww_Fm_readNumber g o o_text o_text_row (.ref o_text) o_place_v o_after_v o_flags_v o_width_v o_precision_v o_conversion_v o_index_v o_directives o_present o_atq (.ref o_text_row) o_text_length o_text_over o_text_row_n o_text_row_c)) S E hS hP hD (c_By_at l z D g o_text o_text_row o_text_length o_text_over o_text_row_n o_text_row_c o_atq u45 hc45) cal_By_at wd_752 wd_753 wd_1080 rfl [1, 2] rfl rfl rfl (gx_rc E hP 1 rfl rfl) rfl hl.1 rfl d_Fm_readNumber_45 ⟨Nat.zero_le _, Nat.zero_le _⟩ rfl (fun H locs hS hP hD => ?_)
          refine lv_iadd S.1 S.2.1 d_Fm_readNumber_48 ?_
          refine lv_bipush (v := 48) S.1 S.2.1 d_Fm_readNumber_49 (by decide) ?_
          refine lv_isub S.1 S.2.1 d_Fm_readNumber_51 ?_
          refine lv_sipush (v := 10000) S.1 S.2.1 d_Fm_readNumber_52 (by decide) ?_
          obtain ⟨u55, hc55, hf⟩ := gx_bnd hf
          refine gx_Si (ws2 := (ww_Fm_readNumber g o o_text o_text_row (.ref o_text) o_place_v o_after_v o_flags_v o_width_v o_precision_v o_conversion_v o_index_v o_directives o_present o_atq (.ref o_text_row) o_text_length o_text_over o_text_row_n o_text_row_c)) S E hS hP hD (c_JMath_min l z D g (((v1 * (10 : Int32)) + u45) - (48 : Int32)) (10000 : Int32) u55 hc55) cal_JMath_min wd_419 wd_1094 rfl [] rfl rfl rfl rfl hl.1 rfl d_Fm_readNumber_55 ⟨Nat.zero_le _, Nat.zero_le _⟩ rfl (fun H locs hS hP hD => ?_)
          refine lv_istore_n (lv' := [(1, .int u55), (0, .ref o)]) S.1 S.2.1 d_Fm_readNumber_58 rfl hl (by decide) rfl (fun ls hl => ?_)
          refine lv_aload_n S.1 S.2.1 d_Fm_readNumber_59 rfl (lv_at hl 1 rfl) ?_
          refine lv_dup S.1 S.2.1 d_Fm_readNumber_60 rfl ?_
          refine gx_gf (v := .int o_atq) S E hP 0 rfl rfl i_Fm 10 rfl wd_280 ⟨rfl, rfl, rfl⟩ rfl d_Fm_readNumber_61 ?_
          refine lv_iconst (v := 1) S.1 S.2.1 d_Fm_readNumber_64 (by decide) ?_
          refine lv_iadd S.1 S.2.1 d_Fm_readNumber_65 ?_
          refine gx_pf (v := .int (o_atq + (1 : Int32))) (ws2 := (ww_Fm_readNumber g o o_text o_text_row (.ref o_text) o_place_v o_after_v o_flags_v o_width_v o_precision_v o_conversion_v o_index_v o_directives o_present (o_atq + (1 : Int32)) (.ref o_text_row) o_text_length o_text_over o_text_row_n o_text_row_c)) S E hS hP hD 0 rfl rfl i_Fm k_Fm n_Fm 10 rfl wd_280 ⟨rfl, rfl, rfl, rfl⟩ rfl rfl rfl d_Fm_readNumber_66 rfl (fun H locs hS hP hD => ?_)
          refine lv_goto (tgt := 2) S.1 S.2.1 d_Fm_readNumber_69 (by decide) ?_
          exact ih u55 (o_atq + (1 : Int32)) ls _ _ (lv_sub hl [1, 0] rfl) hS hP hD hf
  have hf : (f_Fm_readNumber_2 gx_fu (0 : Int32) o_text_row_n o_at o_text_length o_text_row_c) = some r := hf
  refine lv_iconst (v := 0) S.1 S.2.1 d_Fm_readNumber_0 (by decide) ?_
  refine lv_istore_n (lv' := [(1, .int (0 : Int32)), (0, .ref o)]) S.1 S.2.1 d_Fm_readNumber_1 rfl hl (by decide) rfl (fun ls hl => ?_)
  exact c_2 gx_fu (0 : Int32) o_at ls _ _ (lv_sub hl [1, 0] rfl) hS hP hD hf
theorem d_Fm_readIndexOrWidth_0 : decode b_Fm_readIndexOrWidth 0 = .ok (.aload_n 0, 1) := by decide +kernel
theorem d_Fm_readIndexOrWidth_1 : decode b_Fm_readIndexOrWidth 1 = .ok (.getfield 16, 3) := by decide +kernel
theorem d_Fm_readIndexOrWidth_4 : decode b_Fm_readIndexOrWidth 4 = .ok (.aload_n 0, 1) := by decide +kernel
theorem d_Fm_readIndexOrWidth_5 : decode b_Fm_readIndexOrWidth 5 = .ok (.getfield 50, 3) := by decide +kernel
theorem d_Fm_readIndexOrWidth_8 : decode b_Fm_readIndexOrWidth 8 = .ok (.invokevirtual 56, 3) := by decide +kernel
theorem d_Fm_readIndexOrWidth_11 : decode b_Fm_readIndexOrWidth 11 = .ok (.istore_n 2, 1) := by decide +kernel
theorem d_Fm_readIndexOrWidth_12 : decode b_Fm_readIndexOrWidth 12 = .ok (.iload_n 2, 1) := by decide +kernel
theorem d_Fm_readIndexOrWidth_13 : decode b_Fm_readIndexOrWidth 13 = .ok (.bipush 60, 2) := by decide +kernel
theorem d_Fm_readIndexOrWidth_15 : decode b_Fm_readIndexOrWidth 15 = .ok (.if_icmp .ne 23, 3) := by decide +kernel
theorem d_Fm_readIndexOrWidth_18 : decode b_Fm_readIndexOrWidth 18 = .ok (.aload_n 0, 1) := by decide +kernel
theorem d_Fm_readIndexOrWidth_19 : decode b_Fm_readIndexOrWidth 19 = .ok (.getfield 39, 3) := by decide +kernel
theorem d_Fm_readIndexOrWidth_22 : decode b_Fm_readIndexOrWidth 22 = .ok (.iload_n 1, 1) := by decide +kernel
theorem d_Fm_readIndexOrWidth_23 : decode b_Fm_readIndexOrWidth 23 = .ok (.iconst (-1), 1) := by decide +kernel
theorem d_Fm_readIndexOrWidth_24 : decode b_Fm_readIndexOrWidth 24 = .ok (.iastore, 1) := by decide +kernel
theorem d_Fm_readIndexOrWidth_25 : decode b_Fm_readIndexOrWidth 25 = .ok (.aload_n 0, 1) := by decide +kernel
theorem d_Fm_readIndexOrWidth_26 : decode b_Fm_readIndexOrWidth 26 = .ok (.dup, 1) := by decide +kernel
theorem d_Fm_readIndexOrWidth_27 : decode b_Fm_readIndexOrWidth 27 = .ok (.getfield 50, 3) := by decide +kernel
theorem d_Fm_readIndexOrWidth_30 : decode b_Fm_readIndexOrWidth 30 = .ok (.iconst 1, 1) := by decide +kernel
theorem d_Fm_readIndexOrWidth_31 : decode b_Fm_readIndexOrWidth 31 = .ok (.iadd, 1) := by decide +kernel
theorem d_Fm_readIndexOrWidth_32 : decode b_Fm_readIndexOrWidth 32 = .ok (.putfield 50, 3) := by decide +kernel
theorem d_Fm_readIndexOrWidth_35 : decode b_Fm_readIndexOrWidth 35 = .ok (.goto 64, 3) := by decide +kernel
theorem d_Fm_readIndexOrWidth_38 : decode b_Fm_readIndexOrWidth 38 = .ok (.iload_n 2, 1) := by decide +kernel
theorem d_Fm_readIndexOrWidth_39 : decode b_Fm_readIndexOrWidth 39 = .ok (.invokestatic 69, 3) := by decide +kernel
theorem d_Fm_readIndexOrWidth_42 : decode b_Fm_readIndexOrWidth 42 = .ok (.ifCond .eq 57, 3) := by decide +kernel
theorem d_Fm_readIndexOrWidth_45 : decode b_Fm_readIndexOrWidth 45 = .ok (.iload_n 2, 1) := by decide +kernel
theorem d_Fm_readIndexOrWidth_46 : decode b_Fm_readIndexOrWidth 46 = .ok (.bipush 48, 2) := by decide +kernel
theorem d_Fm_readIndexOrWidth_48 : decode b_Fm_readIndexOrWidth 48 = .ok (.if_icmp .eq 51, 3) := by decide +kernel
theorem d_Fm_readIndexOrWidth_51 : decode b_Fm_readIndexOrWidth 51 = .ok (.aload_n 0, 1) := by decide +kernel
theorem d_Fm_readIndexOrWidth_52 : decode b_Fm_readIndexOrWidth 52 = .ok (.invokevirtual 72, 3) := by decide +kernel
theorem d_Fm_readIndexOrWidth_55 : decode b_Fm_readIndexOrWidth 55 = .ok (.istore_n 3, 1) := by decide +kernel
theorem d_Fm_readIndexOrWidth_56 : decode b_Fm_readIndexOrWidth 56 = .ok (.aload_n 0, 1) := by decide +kernel
theorem d_Fm_readIndexOrWidth_57 : decode b_Fm_readIndexOrWidth 57 = .ok (.getfield 16, 3) := by decide +kernel
theorem d_Fm_readIndexOrWidth_60 : decode b_Fm_readIndexOrWidth 60 = .ok (.aload_n 0, 1) := by decide +kernel
theorem d_Fm_readIndexOrWidth_61 : decode b_Fm_readIndexOrWidth 61 = .ok (.getfield 50, 3) := by decide +kernel
theorem d_Fm_readIndexOrWidth_64 : decode b_Fm_readIndexOrWidth 64 = .ok (.invokevirtual 56, 3) := by decide +kernel
theorem d_Fm_readIndexOrWidth_67 : decode b_Fm_readIndexOrWidth 67 = .ok (.bipush 36, 2) := by decide +kernel
theorem d_Fm_readIndexOrWidth_69 : decode b_Fm_readIndexOrWidth 69 = .ok (.if_icmp .ne 23, 3) := by decide +kernel
theorem d_Fm_readIndexOrWidth_72 : decode b_Fm_readIndexOrWidth 72 = .ok (.aload_n 0, 1) := by decide +kernel
theorem d_Fm_readIndexOrWidth_73 : decode b_Fm_readIndexOrWidth 73 = .ok (.getfield 39, 3) := by decide +kernel
theorem d_Fm_readIndexOrWidth_76 : decode b_Fm_readIndexOrWidth 76 = .ok (.iload_n 1, 1) := by decide +kernel
theorem d_Fm_readIndexOrWidth_77 : decode b_Fm_readIndexOrWidth 77 = .ok (.iload_n 3, 1) := by decide +kernel
theorem d_Fm_readIndexOrWidth_78 : decode b_Fm_readIndexOrWidth 78 = .ok (.iastore, 1) := by decide +kernel
theorem d_Fm_readIndexOrWidth_79 : decode b_Fm_readIndexOrWidth 79 = .ok (.aload_n 0, 1) := by decide +kernel
theorem d_Fm_readIndexOrWidth_80 : decode b_Fm_readIndexOrWidth 80 = .ok (.dup, 1) := by decide +kernel
theorem d_Fm_readIndexOrWidth_81 : decode b_Fm_readIndexOrWidth 81 = .ok (.getfield 50, 3) := by decide +kernel
theorem d_Fm_readIndexOrWidth_84 : decode b_Fm_readIndexOrWidth 84 = .ok (.iconst 1, 1) := by decide +kernel
theorem d_Fm_readIndexOrWidth_85 : decode b_Fm_readIndexOrWidth 85 = .ok (.iadd, 1) := by decide +kernel
theorem d_Fm_readIndexOrWidth_86 : decode b_Fm_readIndexOrWidth 86 = .ok (.putfield 50, 3) := by decide +kernel
theorem d_Fm_readIndexOrWidth_89 : decode b_Fm_readIndexOrWidth 89 = .ok (.goto 10, 3) := by decide +kernel
theorem d_Fm_readIndexOrWidth_92 : decode b_Fm_readIndexOrWidth 92 = .ok (.aload_n 0, 1) := by decide +kernel
theorem d_Fm_readIndexOrWidth_93 : decode b_Fm_readIndexOrWidth 93 = .ok (.getfield 30, 3) := by decide +kernel
theorem d_Fm_readIndexOrWidth_96 : decode b_Fm_readIndexOrWidth 96 = .ok (.iload_n 1, 1) := by decide +kernel
theorem d_Fm_readIndexOrWidth_97 : decode b_Fm_readIndexOrWidth 97 = .ok (.iload_n 3, 1) := by decide +kernel
theorem d_Fm_readIndexOrWidth_98 : decode b_Fm_readIndexOrWidth 98 = .ok (.iastore, 1) := by decide +kernel
theorem d_Fm_readIndexOrWidth_99 : decode b_Fm_readIndexOrWidth 99 = .ok (.return_, 1) := by decide +kernel
theorem cal_Fm_readIndexOrWidth : gx_cal y_Fm_readIndexOrWidth b_Fm_readIndexOrWidth 4 none 1 := ⟨wd_1088, wd_11, by decide +kernel⟩
def ww_Fm_readIndexOrWidth (g : Nat → ClassId) (o : Nat) (o_text : Nat) (o_text_row : Nat) (o_width : Nat) (o_index : Nat) (x_o_text : Value) (x_o_place : Value) (x_o_after : Value) (x_o_flags : Value) (x_o_width : Value) (x_o_precision : Value) (x_o_conversion : Value) (x_o_index : Value) (x_o_directives : Int32) (x_o_present : Int32) (x_o_at : Int32) (x_o_text_row : Value) (x_o_text_length : Int32) (x_o_text_over : Int32) (o_text_row_n : Nat) (y_o_text_row : Nat → Int32) (y_o_width : Nat → Int32) (y_o_index : Nat → Int32) : va_W := [(o, .inr (5, [x_o_text, x_o_place, x_o_after, x_o_flags, x_o_width, x_o_precision, x_o_conversion, x_o_index, .int x_o_directives, .int x_o_present, .int x_o_at])), (o_text, .inr (3, [x_o_text_row, .int x_o_text_length, .int x_o_text_over])), (o_text_row, .inl (g 1, o_text_row_n, .inl y_o_text_row)), (o_width, .inl (g 0, 500, .inl y_o_width)), (o_index, .inl (g 0, 500, .inl y_o_index))]
def f_Fm_readIndexOrWidth (a1 : Int32) (o_text_row_n : Nat) (o_at : Int32) (o_text_length : Int32) (o_text_row_c : Nat → Int32) (o_width_c : Nat → Int32) (o_index_c : Nat → Int32) : Option (Int32 × (Nat → Int32) × (Nat → Int32)) := (f_By_at o_at o_text_row_n o_text_length o_text_row_c).bind fun u8 => if u8 = (60 : Int32) then (if gx_ok a1 500 = true then some (o_at + (1 : Int32), o_width_c, upd o_index_c a1.toNatClampNeg (-1 : Int32)) else none) else ((f_Nt_isDigit u8).bind fun u39 => if u39 = 0 then (some (o_at, o_width_c, o_index_c)) else (if u8 = (48 : Int32) then (some (o_at, o_width_c, o_index_c)) else ((f_Fm_readNumber o_text_row_n o_at o_text_length o_text_row_c).bind fun u52 => (f_By_at u52.2 o_text_row_n o_text_length o_text_row_c).bind fun u64 => if u64 = (36 : Int32) then (if gx_ok a1 500 = true then some (u52.2 + (1 : Int32), o_width_c, upd o_index_c a1.toNatClampNeg u52.1) else none) else (if gx_ok a1 500 = true then some (u52.2, upd o_width_c a1.toNatClampNeg u52.1, o_index_c) else none))))
set_option maxHeartbeats 4000000 in
set_option maxRecDepth 100000 in
theorem c_Fm_readIndexOrWidth (l : Launch) (z : State) (D : va_G) (g : Nat → ClassId) (o : Nat) (o_text : Nat) (o_text_row : Nat) (o_width : Nat) (o_index : Nat) (o_place_v : Value) (o_after_v : Value) (o_flags_v : Value) (o_precision_v : Value) (o_conversion_v : Value) (o_directives : Int32) (o_present : Int32) (o_at : Int32) (o_text_length : Int32) (o_text_over : Int32) (o_text_row_n : Nat) (o_text_row_c : Nat → Int32) (o_width_c : Nat → Int32) (o_index_c : Nat → Int32) (a1 : Int32) (r : Int32 × (Nat → Int32) × (Nat → Int32)) (hf : f_Fm_readIndexOrWidth a1 o_text_row_n o_at o_text_length o_text_row_c o_width_c o_index_c = some r) : gx_Mv l z D g y_Fm_readIndexOrWidth b_Fm_readIndexOrWidth 4 ({ frames := 2, cells := 0, slots := 0, locals := 42 } : Room) [.ref o, .int a1] (ww_Fm_readIndexOrWidth g o o_text o_text_row o_width o_index (.ref o_text) o_place_v o_after_v o_flags_v (.ref o_width) o_precision_v o_conversion_v (.ref o_index) o_directives o_present o_at (.ref o_text_row) o_text_length o_text_over o_text_row_n o_text_row_c o_width_c o_index_c) (ww_Fm_readIndexOrWidth g o o_text o_text_row o_width o_index (.ref o_text) o_place_v o_after_v o_flags_v (.ref o_width) o_precision_v o_conversion_v (.ref o_index) o_directives o_present r.1 (.ref o_text_row) o_text_length o_text_over o_text_row_n o_text_row_c r.2.1 r.2.2) := by
  refine gx_go (by decide +kernel) rfl ?_
  intro p e s m below meth c ls S hr hlk hnm E hP hD hl
  have hS : va_S (va_A (ww_Fm_readIndexOrWidth g o o_text o_text_row o_width o_index (.ref o_text) o_place_v o_after_v o_flags_v (.ref o_width) o_precision_v o_conversion_v (.ref o_index) o_directives o_present o_at (.ref o_text_row) o_text_length o_text_over o_text_row_n o_text_row_c o_width_c o_index_c) s.heap.size) s.heap s.heap [] := va_S.rf
  have hl : lv_has ls 4 [(0, .ref o), (1, .int a1)] := hl
  have hf : ((f_By_at o_at o_text_row_n o_text_length o_text_row_c).bind fun u8 => if u8 = (60 : Int32) then (if gx_ok a1 500 = true then some (o_at + (1 : Int32), o_width_c, upd o_index_c a1.toNatClampNeg (-1 : Int32)) else none) else ((f_Nt_isDigit u8).bind fun u39 => if u39 = 0 then (some (o_at, o_width_c, o_index_c)) else (if u8 = (48 : Int32) then (some (o_at, o_width_c, o_index_c)) else ((f_Fm_readNumber o_text_row_n o_at o_text_length o_text_row_c).bind fun u52 => (f_By_at u52.2 o_text_row_n o_text_length o_text_row_c).bind fun u64 => if u64 = (36 : Int32) then (if gx_ok a1 500 = true then some (u52.2 + (1 : Int32), o_width_c, upd o_index_c a1.toNatClampNeg u52.1) else none) else (if gx_ok a1 500 = true then some (u52.2, upd o_width_c a1.toNatClampNeg u52.1, o_index_c) else none))))) = some r := hf
  refine lv_aload_n S.1 S.2.1 d_Fm_readIndexOrWidth_0 rfl (lv_at hl 0 rfl) ?_
  refine gx_gf (v := .ref o_text) S E hP 0 rfl rfl i_Fm 0 rfl wd_260 ⟨rfl, rfl, rfl⟩ rfl d_Fm_readIndexOrWidth_1 ?_
  refine lv_aload_n S.1 S.2.1 d_Fm_readIndexOrWidth_4 rfl (lv_at hl 0 rfl) ?_
  refine gx_gf (v := .int o_at) S E hP 0 rfl rfl i_Fm 10 rfl wd_280 ⟨rfl, rfl, rfl⟩ rfl d_Fm_readIndexOrWidth_5 ?_
  obtain ⟨u8, hc8, hf⟩ := gx_bnd hf
  refine gx_Vi (ws2 := (ww_Fm_readIndexOrWidth g o o_text o_text_row o_width o_index (.ref o_text) o_place_v o_after_v o_flags_v (.ref o_width) o_precision_v o_conversion_v (.ref o_index) o_directives o_present o_at (.ref o_text_row) o_text_length o_text_over o_text_row_n o_text_row_c o_width_c o_index_c)) S E hS hP hD (c_By_at l z D g o_text o_text_row o_text_length o_text_over o_text_row_n o_text_row_c o_at u8 hc8) cal_By_at wd_752 wd_753 wd_1080 rfl [1, 2] rfl rfl rfl (gx_rc E hP 1 rfl rfl) rfl hl.1 rfl d_Fm_readIndexOrWidth_8 ⟨Nat.zero_le _, Nat.zero_le _⟩ rfl (fun H locs hS hP hD => ?_)
  refine lv_istore_n (lv' := [(2, .int u8), (0, .ref o), (1, .int a1)]) S.1 S.2.1 d_Fm_readIndexOrWidth_11 rfl hl (by decide) rfl (fun ls hl => ?_)
  refine lv_iload_n S.1 S.2.1 d_Fm_readIndexOrWidth_12 rfl (lv_at hl 0 rfl) ?_
  refine lv_bipush (v := 60) S.1 S.2.1 d_Fm_readIndexOrWidth_13 (by decide) ?_
  refine lv_icmp_ne (tgt := 38) S.1 S.2.1 d_Fm_readIndexOrWidth_15 (by decide) (fun h => ?_) (fun h => ?_)
  ·
    have hf := gx_ifn h hf
    refine lv_iload_n S.1 S.2.1 d_Fm_readIndexOrWidth_38 rfl (lv_at hl 0 rfl) ?_
    obtain ⟨u39, hc39, hf⟩ := gx_bnd hf
    refine gx_Ti (ws2 := (ww_Fm_readIndexOrWidth g o o_text o_text_row o_width o_index (.ref o_text) o_place_v o_after_v o_flags_v (.ref o_width) o_precision_v o_conversion_v (.ref o_index) o_directives o_present o_at (.ref o_text_row) o_text_length o_text_over o_text_row_n o_text_row_c o_width_c o_index_c)) S E hS hP hD (c_Nt_isDigit l z D g u8 u39 hc39) cal_Nt_isDigit wd_790 nst_12 rfl [] rfl rfl rfl rfl hl.1 rfl d_Fm_readIndexOrWidth_39 ⟨Nat.zero_le _, Nat.zero_le _⟩ rfl (fun H locs hS hP hD => ?_)
    refine lv_if_eq (tgt := 99) S.1 S.2.1 d_Fm_readIndexOrWidth_42 (by decide) (fun h => ?_) (fun h => ?_)
    ·
      have hf := gx_ifp h hf
      obtain rfl := Option.some.inj hf
      exact gx_rv S hr hlk hS hP hD d_Fm_readIndexOrWidth_99
    ·
      have hf := gx_ifn h hf
      refine lv_iload_n S.1 S.2.1 d_Fm_readIndexOrWidth_45 rfl (lv_at hl 0 rfl) ?_
      refine lv_bipush (v := 48) S.1 S.2.1 d_Fm_readIndexOrWidth_46 (by decide) ?_
      refine lv_icmp_eq (tgt := 99) S.1 S.2.1 d_Fm_readIndexOrWidth_48 (by decide) (fun h => ?_) (fun h => ?_)
      ·
        have hf := gx_ifp h hf
        obtain rfl := Option.some.inj hf
        exact gx_rv S hr hlk hS hP hD d_Fm_readIndexOrWidth_99
      ·
        have hf := gx_ifn h hf
        refine lv_aload_n S.1 S.2.1 d_Fm_readIndexOrWidth_51 rfl (lv_at hl 1 rfl) ?_
        obtain ⟨u52, hc52, hf⟩ := gx_bnd hf
        refine gx_Vi (ws2 := (ww_Fm_readIndexOrWidth g o o_text o_text_row o_width o_index (.ref o_text) o_place_v o_after_v o_flags_v (.ref o_width) o_precision_v o_conversion_v (.ref o_index) o_directives o_present u52.2 (.ref o_text_row) o_text_length o_text_over o_text_row_n o_text_row_c o_width_c o_index_c)) S E hS hP hD (c_Fm_readNumber l z D g o o_text o_text_row o_place_v o_after_v o_flags_v (.ref o_width) o_precision_v o_conversion_v (.ref o_index) o_directives o_present o_at o_text_length o_text_over o_text_row_n o_text_row_c u52 hc52) cal_Fm_readNumber wd_1092 ws_42 wd_1090 rfl [0, 1, 2] rfl rfl rfl (gx_rc E hP 0 rfl rfl) rfl hl.1 rfl d_Fm_readIndexOrWidth_52 ⟨Nat.zero_le _, Nat.zero_le _⟩ rfl (fun H locs hS hP hD => ?_)
        refine lv_istore_n (lv' := [(3, .int u52.1), (2, .int u8), (0, .ref o), (1, .int a1)]) S.1 S.2.1 d_Fm_readIndexOrWidth_55 rfl hl (by decide) rfl (fun ls hl => ?_)
        refine lv_aload_n S.1 S.2.1 d_Fm_readIndexOrWidth_56 rfl (lv_at hl 2 rfl) ?_
        refine gx_gf (v := .ref o_text) S E hP 0 rfl rfl i_Fm 0 rfl wd_260 ⟨rfl, rfl, rfl⟩ rfl d_Fm_readIndexOrWidth_57 ?_
        refine lv_aload_n S.1 S.2.1 d_Fm_readIndexOrWidth_60 rfl (lv_at hl 2 rfl) ?_
        refine gx_gf (v := .int u52.2) S E hP 0 rfl rfl i_Fm 10 rfl wd_280 ⟨rfl, rfl, rfl⟩ rfl d_Fm_readIndexOrWidth_61 ?_
        obtain ⟨u64, hc64, hf⟩ := gx_bnd hf
        refine gx_Vi (ws2 := (ww_Fm_readIndexOrWidth g o o_text o_text_row o_width o_index (.ref o_text) o_place_v o_after_v o_flags_v (.ref o_width) o_precision_v o_conversion_v (.ref o_index) o_directives o_present u52.2 (.ref o_text_row) o_text_length o_text_over o_text_row_n o_text_row_c o_width_c o_index_c)) S E hS hP hD (c_By_at l z D g o_text o_text_row o_text_length o_text_over o_text_row_n o_text_row_c u52.2 u64 hc64) cal_By_at wd_752 wd_753 wd_1080 rfl [1, 2] rfl rfl rfl (gx_rc E hP 1 rfl rfl) rfl hl.1 rfl d_Fm_readIndexOrWidth_64 ⟨Nat.zero_le _, Nat.zero_le _⟩ rfl (fun H locs hS hP hD => ?_)
        refine lv_bipush (v := 36) S.1 S.2.1 d_Fm_readIndexOrWidth_67 (by decide) ?_
        refine lv_icmp_ne (tgt := 92) S.1 S.2.1 d_Fm_readIndexOrWidth_69 (by decide) (fun h => ?_) (fun h => ?_)
        ·
          have hf := gx_ifn h hf
          refine lv_aload_n S.1 S.2.1 d_Fm_readIndexOrWidth_92 rfl (lv_at hl 2 rfl) ?_
          refine gx_gf (v := .ref o_width) S E hP 0 rfl rfl i_Fm 4 rfl wd_268 ⟨rfl, rfl, rfl⟩ rfl d_Fm_readIndexOrWidth_93 ?_
          refine lv_iload_n S.1 S.2.1 d_Fm_readIndexOrWidth_96 rfl (lv_at hl 3 rfl) ?_
          refine lv_iload_n S.1 S.2.1 d_Fm_readIndexOrWidth_97 rfl (lv_at hl 0 rfl) ?_
          obtain ⟨hin, hf⟩ := gx_chk hf
          refine gx_iast (ws2 := (ww_Fm_readIndexOrWidth g o o_text o_text_row o_width o_index (.ref o_text) o_place_v o_after_v o_flags_v (.ref o_width) o_precision_v o_conversion_v (.ref o_index) o_directives o_present u52.2 (.ref o_text_row) o_text_length o_text_over o_text_row_n o_text_row_c (upd o_width_c a1.toNatClampNeg u52.1) o_index_c)) S E hS hP hD 3 0 rfl rfl hin d_Fm_readIndexOrWidth_98 rfl (fun H locs hS hP hD => ?_)
          obtain rfl := Option.some.inj hf
          exact gx_rv S hr hlk hS hP hD d_Fm_readIndexOrWidth_99
        ·
          have hf := gx_ifp h hf
          refine lv_aload_n S.1 S.2.1 d_Fm_readIndexOrWidth_72 rfl (lv_at hl 2 rfl) ?_
          refine gx_gf (v := .ref o_index) S E hP 0 rfl rfl i_Fm 7 rfl wd_274 ⟨rfl, rfl, rfl⟩ rfl d_Fm_readIndexOrWidth_73 ?_
          refine lv_iload_n S.1 S.2.1 d_Fm_readIndexOrWidth_76 rfl (lv_at hl 3 rfl) ?_
          refine lv_iload_n S.1 S.2.1 d_Fm_readIndexOrWidth_77 rfl (lv_at hl 0 rfl) ?_
          obtain ⟨hin, hf⟩ := gx_chk hf
          refine gx_iast (ws2 := (ww_Fm_readIndexOrWidth g o o_text o_text_row o_width o_index (.ref o_text) o_place_v o_after_v o_flags_v (.ref o_width) o_precision_v o_conversion_v (.ref o_index) o_directives o_present u52.2 (.ref o_text_row) o_text_length o_text_over o_text_row_n o_text_row_c o_width_c (upd o_index_c a1.toNatClampNeg u52.1))) S E hS hP hD 4 0 rfl rfl hin d_Fm_readIndexOrWidth_78 rfl (fun H locs hS hP hD => ?_)
          refine lv_aload_n S.1 S.2.1 d_Fm_readIndexOrWidth_79 rfl (lv_at hl 2 rfl) ?_
          refine lv_dup S.1 S.2.1 d_Fm_readIndexOrWidth_80 rfl ?_
          refine gx_gf (v := .int u52.2) S E hP 0 rfl rfl i_Fm 10 rfl wd_280 ⟨rfl, rfl, rfl⟩ rfl d_Fm_readIndexOrWidth_81 ?_
          refine lv_iconst (v := 1) S.1 S.2.1 d_Fm_readIndexOrWidth_84 (by decide) ?_
          refine lv_iadd S.1 S.2.1 d_Fm_readIndexOrWidth_85 ?_
          refine gx_pf (v := .int (u52.2 + (1 : Int32))) (ws2 := (ww_Fm_readIndexOrWidth g o o_text o_text_row o_width o_index (.ref o_text) o_place_v o_after_v o_flags_v (.ref o_width) o_precision_v o_conversion_v (.ref o_index) o_directives o_present (u52.2 + (1 : Int32)) (.ref o_text_row) o_text_length o_text_over o_text_row_n o_text_row_c o_width_c (upd o_index_c a1.toNatClampNeg u52.1))) S E hS hP hD 0 rfl rfl i_Fm k_Fm n_Fm 10 rfl wd_280 ⟨rfl, rfl, rfl, rfl⟩ rfl rfl rfl d_Fm_readIndexOrWidth_86 rfl (fun H locs hS hP hD => ?_)
          refine lv_goto (tgt := 99) S.1 S.2.1 d_Fm_readIndexOrWidth_89 (by decide) ?_
          obtain rfl := Option.some.inj hf
          exact gx_rv S hr hlk hS hP hD d_Fm_readIndexOrWidth_99
  ·
    have hf := gx_ifp h hf
    refine lv_aload_n S.1 S.2.1 d_Fm_readIndexOrWidth_18 rfl (lv_at hl 1 rfl) ?_
    refine gx_gf (v := .ref o_index) S E hP 0 rfl rfl i_Fm 7 rfl wd_274 ⟨rfl, rfl, rfl⟩ rfl d_Fm_readIndexOrWidth_19 ?_
    refine lv_iload_n S.1 S.2.1 d_Fm_readIndexOrWidth_22 rfl (lv_at hl 2 rfl) ?_
    refine lv_iconst (v := (-1)) S.1 S.2.1 d_Fm_readIndexOrWidth_23 (by decide) ?_
    obtain ⟨hin, hf⟩ := gx_chk hf
    refine gx_iast (ws2 := (ww_Fm_readIndexOrWidth g o o_text o_text_row o_width o_index (.ref o_text) o_place_v o_after_v o_flags_v (.ref o_width) o_precision_v o_conversion_v (.ref o_index) o_directives o_present o_at (.ref o_text_row) o_text_length o_text_over o_text_row_n o_text_row_c o_width_c (upd o_index_c a1.toNatClampNeg (-1 : Int32)))) S E hS hP hD 4 0 rfl rfl hin d_Fm_readIndexOrWidth_24 rfl (fun H locs hS hP hD => ?_)
    refine lv_aload_n S.1 S.2.1 d_Fm_readIndexOrWidth_25 rfl (lv_at hl 1 rfl) ?_
    refine lv_dup S.1 S.2.1 d_Fm_readIndexOrWidth_26 rfl ?_
    refine gx_gf (v := .int o_at) S E hP 0 rfl rfl i_Fm 10 rfl wd_280 ⟨rfl, rfl, rfl⟩ rfl d_Fm_readIndexOrWidth_27 ?_
    refine lv_iconst (v := 1) S.1 S.2.1 d_Fm_readIndexOrWidth_30 (by decide) ?_
    refine lv_iadd S.1 S.2.1 d_Fm_readIndexOrWidth_31 ?_
    refine gx_pf (v := .int (o_at + (1 : Int32))) (ws2 := (ww_Fm_readIndexOrWidth g o o_text o_text_row o_width o_index (.ref o_text) o_place_v o_after_v o_flags_v (.ref o_width) o_precision_v o_conversion_v (.ref o_index) o_directives o_present (o_at + (1 : Int32)) (.ref o_text_row) o_text_length o_text_over o_text_row_n o_text_row_c o_width_c (upd o_index_c a1.toNatClampNeg (-1 : Int32)))) S E hS hP hD 0 rfl rfl i_Fm k_Fm n_Fm 10 rfl wd_280 ⟨rfl, rfl, rfl, rfl⟩ rfl rfl rfl d_Fm_readIndexOrWidth_32 rfl (fun H locs hS hP hD => ?_)
    refine lv_goto (tgt := 99) S.1 S.2.1 d_Fm_readIndexOrWidth_35 (by decide) ?_
    obtain rfl := Option.some.inj hf
    exact gx_rv S hr hlk hS hP hD d_Fm_readIndexOrWidth_99
theorem d_Fm_has_0 : decode b_Fm_has 0 = .ok (.iload_n 1, 1) := by decide +kernel
theorem d_Fm_has_1 : decode b_Fm_has 1 = .ok (.ifCond .lt 16, 3) := by decide +kernel
theorem d_Fm_has_4 : decode b_Fm_has 4 = .ok (.aload_n 0, 1) := by decide +kernel
theorem d_Fm_has_5 : decode b_Fm_has 5 = .ok (.iload_n 1, 1) := by decide +kernel
theorem d_Fm_has_6 : decode b_Fm_has 6 = .ok (.i2c, 1) := by decide +kernel
theorem d_Fm_has_7 : decode b_Fm_has 7 = .ok (.invokevirtual 84, 3) := by decide +kernel
theorem d_Fm_has_10 : decode b_Fm_has 10 = .ok (.ifCond .lt 7, 3) := by decide +kernel
theorem d_Fm_has_13 : decode b_Fm_has 13 = .ok (.iconst 1, 1) := by decide +kernel
theorem d_Fm_has_14 : decode b_Fm_has 14 = .ok (.goto 4, 3) := by decide +kernel
theorem d_Fm_has_17 : decode b_Fm_has 17 = .ok (.iconst 0, 1) := by decide +kernel
theorem d_Fm_has_18 : decode b_Fm_has 18 = .ok (.ireturn, 1) := by decide +kernel
theorem cal_Fm_has : gx_cal y_Fm_has b_Fm_has 2 (some .boolean) 2 := ⟨wd_1102, wd_11, by decide +kernel⟩
def ww_Fm_has (g : Nat → ClassId)  : va_W := []
def f_Fm_has_17  : Option (Int32) := some (0 : Int32)
def f_Fm_has (a1 : Nat) (a2 : Int32) : Option (Int32) := if a2 < 0 then (f_Fm_has_17 ) else (if a1 < 74 then (f_JStr_indexOf a1 ((a2.toUInt32 % 65536).toInt32)).bind fun u7 => if u7 < 0 then (f_Fm_has_17 ) else (some (1 : Int32)) else none)
set_option maxHeartbeats 4000000 in
set_option maxRecDepth 100000 in
theorem c_Fm_has (l : Launch) (z : State) (D : va_G) (g : Nat → ClassId) (a1 : Nat) (a2 : Int32) (r : Int32) (hf : f_Fm_has a1 a2 = some r) : gx_Mi l z D g y_Fm_has b_Fm_has 2 .boolean ({ frames := 4, cells := 0, slots := 0, locals := 91 } : Room) [.ref (g (100 + a1)), .int a2] (ww_Fm_has g ) (ww_Fm_has g ) r := by
  refine gx_go (by decide +kernel) rfl ?_
  intro p e s m below meth c ls S hr hlk hnm E hP hD hl
  have hS : va_S (va_A (ww_Fm_has g ) s.heap.size) s.heap s.heap [] := va_S.rf
  have hl : lv_has ls 2 [(0, .ref (g (100 + a1))), (1, .int a2)] := hl
  have c_17 : ∀  (ls : Array Slot) (H : Heap) (locs : List Loc), lv_has ls 2 [] → va_S (va_A (ww_Fm_has g ) s.heap.size) s.heap H locs → va_P D vwC (ww_Fm_has g ) H → va_D (va_A (ww_Fm_has g ) s.heap.size) (ww_Fm_has g ) → (f_Fm_has_17 ) = some r → W p l e ({ frames := 4, cells := 0, slots := 0, locals := 91 } : Room) s m ([.ref (g (100 + a1)), .int a2] : List Value).toArray below meth c H locs 0 0 (MQ below (gx_Qi D (ww_Fm_has g ) (ww_Fm_has g ) r s.heap.size) ([.ref (g (100 + a1)), .int a2] : List Value).toArray s 0 0 (va_A (ww_Fm_has g ) s.heap.size)) (F0 m 17 ls []) := by
    intro  ls H locs hl hS hP hD hf
    have hf : (some (0 : Int32)) = some r := hf
    refine lv_iconst (v := 0) S.1 S.2.1 d_Fm_has_17 (by decide) ?_
    obtain rfl := Option.some.inj hf
    exact gx_rz S hr gx_n0 hlk hS hP hD d_Fm_has_18
  have hf : (if a2 < 0 then (f_Fm_has_17 ) else (if a1 < 74 then (f_JStr_indexOf a1 ((a2.toUInt32 % 65536).toInt32)).bind fun u7 => if u7 < 0 then (f_Fm_has_17 ) else (some (1 : Int32)) else none)) = some r := hf
  refine lv_iload_n S.1 S.2.1 d_Fm_has_0 rfl (lv_at hl 1 rfl) ?_
  refine lv_if_lt (tgt := 17) S.1 S.2.1 d_Fm_has_1 (by decide) (fun h => ?_) (fun h => ?_)
  ·
    have hf := gx_ifp h hf
    exact c_17  ls _ _ (lv_sub hl [] rfl) hS hP hD hf
  ·
    have hf := gx_ifn h hf
    refine lv_aload_n S.1 S.2.1 d_Fm_has_4 rfl (lv_at hl 0 rfl) ?_
    refine lv_iload_n S.1 S.2.1 d_Fm_has_5 rfl (lv_at hl 1 rfl) ?_
    refine lv_i2c S.1 S.2.1 d_Fm_has_6 rfl ?_
    obtain ⟨hk7z, hf⟩ := gx_chk hf
    obtain ⟨u7, hc7, hf⟩ := gx_bnd hf
    refine gx_Vi (ws2 := (ww_Fm_has g )) S E hS hP hD (c_JStr_indexOf l z D g a1 ((a2.toUInt32 % 65536).toInt32) u7 hc7) cal_JStr_indexOf wd_1104 wd_1105 wd_1103 rfl [] rfl rfl rfl (gx_rcO (gx_stO E hk7z) hS) rfl hl.1 rfl d_Fm_has_7 ⟨Nat.zero_le _, Nat.zero_le _⟩ rfl (fun H locs hS hP hD => ?_)
    refine lv_if_lt (tgt := 17) S.1 S.2.1 d_Fm_has_10 (by decide) (fun h => ?_) (fun h => ?_)
    ·
      have hf := gx_ifp h hf
      exact c_17  ls _ _ (lv_sub hl [] rfl) hS hP hD hf
    ·
      have hf := gx_ifn h hf
      refine lv_iconst (v := 1) S.1 S.2.1 d_Fm_has_13 (by decide) ?_
      refine lv_goto (tgt := 18) S.1 S.2.1 d_Fm_has_14 (by decide) ?_
      obtain rfl := Option.some.inj hf
      exact gx_rz S hr gx_n1 hlk hS hP hD d_Fm_has_18
theorem d_Fm_readFlagsAndWidth_0 : decode b_Fm_readFlagsAndWidth 0 = .ok (.aload_n 0, 1) := by decide +kernel
theorem d_Fm_readFlagsAndWidth_1 : decode b_Fm_readFlagsAndWidth 1 = .ok (.getfield 50, 3) := by decide +kernel
theorem d_Fm_readFlagsAndWidth_4 : decode b_Fm_readFlagsAndWidth 4 = .ok (.aload_n 0, 1) := by decide +kernel
theorem d_Fm_readFlagsAndWidth_5 : decode b_Fm_readFlagsAndWidth 5 = .ok (.getfield 16, 3) := by decide +kernel
theorem d_Fm_readFlagsAndWidth_8 : decode b_Fm_readFlagsAndWidth 8 = .ok (.getfield 53, 3) := by decide +kernel
theorem d_Fm_readFlagsAndWidth_11 : decode b_Fm_readFlagsAndWidth 11 = .ok (.if_icmp .ge 82, 3) := by decide +kernel
theorem d_Fm_readFlagsAndWidth_14 : decode b_Fm_readFlagsAndWidth 14 = .ok (.ldc 82, 2) := by decide +kernel
theorem d_Fm_readFlagsAndWidth_16 : decode b_Fm_readFlagsAndWidth 16 = .ok (.aload_n 0, 1) := by decide +kernel
theorem d_Fm_readFlagsAndWidth_17 : decode b_Fm_readFlagsAndWidth 17 = .ok (.getfield 16, 3) := by decide +kernel
theorem d_Fm_readFlagsAndWidth_20 : decode b_Fm_readFlagsAndWidth 20 = .ok (.aload_n 0, 1) := by decide +kernel
theorem d_Fm_readFlagsAndWidth_21 : decode b_Fm_readFlagsAndWidth 21 = .ok (.getfield 50, 3) := by decide +kernel
theorem d_Fm_readFlagsAndWidth_24 : decode b_Fm_readFlagsAndWidth 24 = .ok (.invokevirtual 56, 3) := by decide +kernel
theorem d_Fm_readFlagsAndWidth_27 : decode b_Fm_readFlagsAndWidth 27 = .ok (.invokestatic 78, 3) := by decide +kernel
theorem d_Fm_readFlagsAndWidth_30 : decode b_Fm_readFlagsAndWidth 30 = .ok (.ifCond .eq 63, 3) := by decide +kernel
theorem d_Fm_readFlagsAndWidth_33 : decode b_Fm_readFlagsAndWidth 33 = .ok (.iconst 1, 1) := by decide +kernel
theorem d_Fm_readFlagsAndWidth_34 : decode b_Fm_readFlagsAndWidth 34 = .ok (.ldc 82, 2) := by decide +kernel
theorem d_Fm_readFlagsAndWidth_36 : decode b_Fm_readFlagsAndWidth 36 = .ok (.aload_n 0, 1) := by decide +kernel
theorem d_Fm_readFlagsAndWidth_37 : decode b_Fm_readFlagsAndWidth 37 = .ok (.getfield 16, 3) := by decide +kernel
theorem d_Fm_readFlagsAndWidth_40 : decode b_Fm_readFlagsAndWidth 40 = .ok (.aload_n 0, 1) := by decide +kernel
theorem d_Fm_readFlagsAndWidth_41 : decode b_Fm_readFlagsAndWidth 41 = .ok (.getfield 50, 3) := by decide +kernel
theorem d_Fm_readFlagsAndWidth_44 : decode b_Fm_readFlagsAndWidth 44 = .ok (.invokevirtual 56, 3) := by decide +kernel
theorem d_Fm_readFlagsAndWidth_47 : decode b_Fm_readFlagsAndWidth 47 = .ok (.i2c, 1) := by decide +kernel
theorem d_Fm_readFlagsAndWidth_48 : decode b_Fm_readFlagsAndWidth 48 = .ok (.invokevirtual 84, 3) := by decide +kernel
theorem d_Fm_readFlagsAndWidth_51 : decode b_Fm_readFlagsAndWidth 51 = .ok (.ishl, 1) := by decide +kernel
theorem d_Fm_readFlagsAndWidth_52 : decode b_Fm_readFlagsAndWidth 52 = .ok (.istore_n 2, 1) := by decide +kernel
theorem d_Fm_readFlagsAndWidth_53 : decode b_Fm_readFlagsAndWidth 53 = .ok (.aload_n 0, 1) := by decide +kernel
theorem d_Fm_readFlagsAndWidth_54 : decode b_Fm_readFlagsAndWidth 54 = .ok (.getfield 27, 3) := by decide +kernel
theorem d_Fm_readFlagsAndWidth_57 : decode b_Fm_readFlagsAndWidth 57 = .ok (.iload_n 1, 1) := by decide +kernel
theorem d_Fm_readFlagsAndWidth_58 : decode b_Fm_readFlagsAndWidth 58 = .ok (.dup2, 1) := by decide +kernel
theorem d_Fm_readFlagsAndWidth_59 : decode b_Fm_readFlagsAndWidth 59 = .ok (.iaload, 1) := by decide +kernel
theorem d_Fm_readFlagsAndWidth_60 : decode b_Fm_readFlagsAndWidth 60 = .ok (.aload_n 0, 1) := by decide +kernel
theorem d_Fm_readFlagsAndWidth_61 : decode b_Fm_readFlagsAndWidth 61 = .ok (.getfield 27, 3) := by decide +kernel
theorem d_Fm_readFlagsAndWidth_64 : decode b_Fm_readFlagsAndWidth 64 = .ok (.iload_n 1, 1) := by decide +kernel
theorem d_Fm_readFlagsAndWidth_65 : decode b_Fm_readFlagsAndWidth 65 = .ok (.iaload, 1) := by decide +kernel
theorem d_Fm_readFlagsAndWidth_66 : decode b_Fm_readFlagsAndWidth 66 = .ok (.iload_n 2, 1) := by decide +kernel
theorem d_Fm_readFlagsAndWidth_67 : decode b_Fm_readFlagsAndWidth 67 = .ok (.iand, 1) := by decide +kernel
theorem d_Fm_readFlagsAndWidth_68 : decode b_Fm_readFlagsAndWidth 68 = .ok (.ifCond .eq 9, 3) := by decide +kernel
theorem d_Fm_readFlagsAndWidth_71 : decode b_Fm_readFlagsAndWidth 71 = .ok (.sipush 128, 3) := by decide +kernel
theorem d_Fm_readFlagsAndWidth_74 : decode b_Fm_readFlagsAndWidth 74 = .ok (.goto 4, 3) := by decide +kernel
theorem d_Fm_readFlagsAndWidth_77 : decode b_Fm_readFlagsAndWidth 77 = .ok (.iload_n 2, 1) := by decide +kernel
theorem d_Fm_readFlagsAndWidth_78 : decode b_Fm_readFlagsAndWidth 78 = .ok (.ior, 1) := by decide +kernel
theorem d_Fm_readFlagsAndWidth_79 : decode b_Fm_readFlagsAndWidth 79 = .ok (.iastore, 1) := by decide +kernel
theorem d_Fm_readFlagsAndWidth_80 : decode b_Fm_readFlagsAndWidth 80 = .ok (.aload_n 0, 1) := by decide +kernel
theorem d_Fm_readFlagsAndWidth_81 : decode b_Fm_readFlagsAndWidth 81 = .ok (.dup, 1) := by decide +kernel
theorem d_Fm_readFlagsAndWidth_82 : decode b_Fm_readFlagsAndWidth 82 = .ok (.getfield 50, 3) := by decide +kernel
theorem d_Fm_readFlagsAndWidth_85 : decode b_Fm_readFlagsAndWidth 85 = .ok (.iconst 1, 1) := by decide +kernel
theorem d_Fm_readFlagsAndWidth_86 : decode b_Fm_readFlagsAndWidth 86 = .ok (.iadd, 1) := by decide +kernel
theorem d_Fm_readFlagsAndWidth_87 : decode b_Fm_readFlagsAndWidth 87 = .ok (.putfield 50, 3) := by decide +kernel
theorem d_Fm_readFlagsAndWidth_90 : decode b_Fm_readFlagsAndWidth 90 = .ok (.goto (-90), 3) := by decide +kernel
theorem d_Fm_readFlagsAndWidth_93 : decode b_Fm_readFlagsAndWidth 93 = .ok (.aload_n 0, 1) := by decide +kernel
theorem d_Fm_readFlagsAndWidth_94 : decode b_Fm_readFlagsAndWidth 94 = .ok (.getfield 16, 3) := by decide +kernel
theorem d_Fm_readFlagsAndWidth_97 : decode b_Fm_readFlagsAndWidth 97 = .ok (.aload_n 0, 1) := by decide +kernel
theorem d_Fm_readFlagsAndWidth_98 : decode b_Fm_readFlagsAndWidth 98 = .ok (.getfield 50, 3) := by decide +kernel
theorem d_Fm_readFlagsAndWidth_101 : decode b_Fm_readFlagsAndWidth 101 = .ok (.invokevirtual 56, 3) := by decide +kernel
theorem d_Fm_readFlagsAndWidth_104 : decode b_Fm_readFlagsAndWidth 104 = .ok (.invokestatic 69, 3) := by decide +kernel
theorem d_Fm_readFlagsAndWidth_107 : decode b_Fm_readFlagsAndWidth 107 = .ok (.ifCond .eq 13, 3) := by decide +kernel
theorem d_Fm_readFlagsAndWidth_110 : decode b_Fm_readFlagsAndWidth 110 = .ok (.aload_n 0, 1) := by decide +kernel
theorem d_Fm_readFlagsAndWidth_111 : decode b_Fm_readFlagsAndWidth 111 = .ok (.getfield 30, 3) := by decide +kernel
theorem d_Fm_readFlagsAndWidth_114 : decode b_Fm_readFlagsAndWidth 114 = .ok (.iload_n 1, 1) := by decide +kernel
theorem d_Fm_readFlagsAndWidth_115 : decode b_Fm_readFlagsAndWidth 115 = .ok (.aload_n 0, 1) := by decide +kernel
theorem d_Fm_readFlagsAndWidth_116 : decode b_Fm_readFlagsAndWidth 116 = .ok (.invokevirtual 72, 3) := by decide +kernel
theorem d_Fm_readFlagsAndWidth_119 : decode b_Fm_readFlagsAndWidth 119 = .ok (.iastore, 1) := by decide +kernel
theorem d_Fm_readFlagsAndWidth_120 : decode b_Fm_readFlagsAndWidth 120 = .ok (.return_, 1) := by decide +kernel
theorem cal_Fm_readFlagsAndWidth : gx_cal y_Fm_readFlagsAndWidth b_Fm_readFlagsAndWidth 3 none 1 := ⟨wd_1098, wd_11, by decide +kernel⟩
def ww_Fm_readFlagsAndWidth (g : Nat → ClassId) (o : Nat) (o_text : Nat) (o_text_row : Nat) (o_width : Nat) (o_flags : Nat) (x_o_text : Value) (x_o_place : Value) (x_o_after : Value) (x_o_flags : Value) (x_o_width : Value) (x_o_precision : Value) (x_o_conversion : Value) (x_o_index : Value) (x_o_directives : Int32) (x_o_present : Int32) (x_o_at : Int32) (x_o_text_row : Value) (x_o_text_length : Int32) (x_o_text_over : Int32) (o_text_row_n : Nat) (y_o_text_row : Nat → Int32) (y_o_width : Nat → Int32) (y_o_flags : Nat → Int32) : va_W := [(o, .inr (5, [x_o_text, x_o_place, x_o_after, x_o_flags, x_o_width, x_o_precision, x_o_conversion, x_o_index, .int x_o_directives, .int x_o_present, .int x_o_at])), (o_text, .inr (3, [x_o_text_row, .int x_o_text_length, .int x_o_text_over])), (o_text_row, .inl (g 1, o_text_row_n, .inl y_o_text_row)), (o_width, .inl (g 0, 500, .inl y_o_width)), (o_flags, .inl (g 0, 500, .inl y_o_flags))]
def f_Fm_readFlagsAndWidth_78 (k0 : Int32 → Nat → Int32 → Int32 → (Nat → Int32) → (Nat → Int32) → (Nat → Int32) → Option (Int32 × (Nat → Int32) × (Nat → Int32))) (v1 : Int32) (t0 : Int32) (t1 : Int32) (t2 : Int32) (o_text_row_n : Nat) (o_atq : Int32) (o_text_length : Int32) (o_text_row_c : Nat → Int32) (o_flags_cq : Nat → Int32) (o_width_cq : Nat → Int32) : Option (Int32 × (Nat → Int32) × (Nat → Int32)) := if gx_ok t2 500 = true then k0 v1 o_text_row_n (o_atq + (1 : Int32)) o_text_length o_text_row_c (upd o_flags_cq t2.toNatClampNeg (t1 ||| t0)) o_width_cq else none
def f_Fm_readFlagsAndWidth_93 (v1 : Int32) (o_text_row_n : Nat) (o_atq : Int32) (o_text_length : Int32) (o_text_row_c : Nat → Int32) (o_flags_cq : Nat → Int32) (o_width_cq : Nat → Int32) : Option (Int32 × (Nat → Int32) × (Nat → Int32)) := (f_By_at o_atq o_text_row_n o_text_length o_text_row_c).bind fun u101 => (f_Nt_isDigit u101).bind fun u104 => if u104 = 0 then (some (o_atq, o_flags_cq, o_width_cq)) else ((f_Fm_readNumber o_text_row_n o_atq o_text_length o_text_row_c).bind fun u116 => if gx_ok v1 500 = true then some (u116.2, o_flags_cq, upd o_width_cq v1.toNatClampNeg u116.1) else none)
def f_Fm_readFlagsAndWidth_0 : Nat → Int32 → Nat → Int32 → Int32 → (Nat → Int32) → (Nat → Int32) → (Nat → Int32) → Option (Int32 × (Nat → Int32) × (Nat → Int32))
  | 0, _, _, _, _, _, _, _ => none
  | n + 1, v1, o_text_row_n, o_atq, o_text_length, o_text_row_c, o_flags_cq, o_width_cq => if o_text_length ≤ o_atq then (f_Fm_readFlagsAndWidth_93 v1 o_text_row_n o_atq o_text_length o_text_row_c o_flags_cq o_width_cq) else ((f_By_at o_atq o_text_row_n o_text_length o_text_row_c).bind fun u24 => (f_Fm_has 30 u24).bind fun u27 => if u27 = 0 then (f_Fm_readFlagsAndWidth_93 v1 o_text_row_n o_atq o_text_length o_text_row_c o_flags_cq o_width_cq) else ((f_By_at o_atq o_text_row_n o_text_length o_text_row_c).bind fun u44 => (f_JStr_indexOf 30 ((u44.toUInt32 % 65536).toInt32)).bind fun u48 => if gx_ok v1 500 = true then if gx_ok v1 500 = true then if ((o_flags_cq v1.toNatClampNeg) &&& ((1 : Int32) <<< (u48 &&& 31))) = 0 then (f_Fm_readFlagsAndWidth_78 (fun v1 o_text_row_n o_atq o_text_length o_text_row_c o_flags_cq o_width_cq => f_Fm_readFlagsAndWidth_0 n v1 o_text_row_n o_atq o_text_length o_text_row_c o_flags_cq o_width_cq) v1 ((1 : Int32) <<< (u48 &&& 31)) (o_flags_cq v1.toNatClampNeg) v1 o_text_row_n o_atq o_text_length o_text_row_c o_flags_cq o_width_cq) else (f_Fm_readFlagsAndWidth_78 (fun v1 o_text_row_n o_atq o_text_length o_text_row_c o_flags_cq o_width_cq => f_Fm_readFlagsAndWidth_0 n v1 o_text_row_n o_atq o_text_length o_text_row_c o_flags_cq o_width_cq) v1 (128 : Int32) (o_flags_cq v1.toNatClampNeg) v1 o_text_row_n o_atq o_text_length o_text_row_c o_flags_cq o_width_cq) else none else none))
def f_Fm_readFlagsAndWidth (a1 : Int32) (o_text_row_n : Nat) (o_at : Int32) (o_text_length : Int32) (o_text_row_c : Nat → Int32) (o_flags_c : Nat → Int32) (o_width_c : Nat → Int32) : Option (Int32 × (Nat → Int32) × (Nat → Int32)) := f_Fm_readFlagsAndWidth_0 gx_fu a1 o_text_row_n o_at o_text_length o_text_row_c o_flags_c o_width_c
set_option maxHeartbeats 4000000 in
set_option maxRecDepth 100000 in
theorem c_Fm_readFlagsAndWidth (l : Launch) (z : State) (D : va_G) (g : Nat → ClassId) (o : Nat) (o_text : Nat) (o_text_row : Nat) (o_width : Nat) (o_flags : Nat) (o_place_v : Value) (o_after_v : Value) (o_precision_v : Value) (o_conversion_v : Value) (o_index_v : Value) (o_directives : Int32) (o_present : Int32) (o_at : Int32) (o_text_length : Int32) (o_text_over : Int32) (o_text_row_n : Nat) (o_text_row_c : Nat → Int32) (o_width_c : Nat → Int32) (o_flags_c : Nat → Int32) (a1 : Int32) (r : Int32 × (Nat → Int32) × (Nat → Int32)) (hf : f_Fm_readFlagsAndWidth a1 o_text_row_n o_at o_text_length o_text_row_c o_flags_c o_width_c = some r) : gx_Mv l z D g y_Fm_readFlagsAndWidth b_Fm_readFlagsAndWidth 3 ({ frames := 5, cells := 0, slots := 0, locals := 112 } : Room) [.ref o, .int a1] (ww_Fm_readFlagsAndWidth g o o_text o_text_row o_width o_flags (.ref o_text) o_place_v o_after_v (.ref o_flags) (.ref o_width) o_precision_v o_conversion_v o_index_v o_directives o_present o_at (.ref o_text_row) o_text_length o_text_over o_text_row_n o_text_row_c o_width_c o_flags_c) (ww_Fm_readFlagsAndWidth g o o_text o_text_row o_width o_flags (.ref o_text) o_place_v o_after_v (.ref o_flags) (.ref o_width) o_precision_v o_conversion_v o_index_v o_directives o_present r.1 (.ref o_text_row) o_text_length o_text_over o_text_row_n o_text_row_c r.2.2 r.2.1) := by
  refine gx_go (by decide +kernel) rfl ?_
  intro p e s m below meth c ls S hr hlk hnm E hP hD hl
  have hS : va_S (va_A (ww_Fm_readFlagsAndWidth g o o_text o_text_row o_width o_flags (.ref o_text) o_place_v o_after_v (.ref o_flags) (.ref o_width) o_precision_v o_conversion_v o_index_v o_directives o_present o_at (.ref o_text_row) o_text_length o_text_over o_text_row_n o_text_row_c o_width_c o_flags_c) s.heap.size) s.heap s.heap [] := va_S.rf
  have hl : lv_has ls 3 [(0, .ref o), (1, .int a1)] := hl
  have c_78 : ∀ (k0 : Int32 → Nat → Int32 → Int32 → (Nat → Int32) → (Nat → Int32) → (Nat → Int32) → Option (Int32 × (Nat → Int32) × (Nat → Int32))) (hk0 : ∀ (v1 : Int32) (o_atq : Int32) (o_flags_cq : Nat → Int32) (o_width_cq : Nat → Int32) (ls : Array Slot) (H : Heap) (locs : List Loc), lv_has ls 3 [(0, .ref o), (1, .int v1)] → va_S (va_A (ww_Fm_readFlagsAndWidth g o o_text o_text_row o_width o_flags (.ref o_text) o_place_v o_after_v (.ref o_flags) (.ref o_width) o_precision_v o_conversion_v o_index_v o_directives o_present o_at (.ref o_text_row) o_text_length o_text_over o_text_row_n o_text_row_c o_width_c o_flags_c) s.heap.size) s.heap H locs → va_P D vwC (ww_Fm_readFlagsAndWidth g o o_text o_text_row o_width o_flags (.ref o_text) o_place_v o_after_v (.ref o_flags) (.ref o_width) o_precision_v o_conversion_v o_index_v o_directives o_present o_atq (.ref o_text_row) o_text_length o_text_over o_text_row_n o_text_row_c o_width_cq o_flags_cq) H → va_D (va_A (ww_Fm_readFlagsAndWidth g o o_text o_text_row o_width o_flags (.ref o_text) o_place_v o_after_v (.ref o_flags) (.ref o_width) o_precision_v o_conversion_v o_index_v o_directives o_present o_at (.ref o_text_row) o_text_length o_text_over o_text_row_n o_text_row_c o_width_c o_flags_c) s.heap.size) (ww_Fm_readFlagsAndWidth g o o_text o_text_row o_width o_flags (.ref o_text) o_place_v o_after_v (.ref o_flags) (.ref o_width) o_precision_v o_conversion_v o_index_v o_directives o_present o_atq (.ref o_text_row) o_text_length o_text_over o_text_row_n o_text_row_c o_width_cq o_flags_cq) → (k0 v1 o_text_row_n o_atq o_text_length o_text_row_c o_flags_cq o_width_cq) = some r → W p l e ({ frames := 5, cells := 0, slots := 0, locals := 112 } : Room) s m ([.ref o, .int a1] : List Value).toArray below meth c H locs 0 0 (MQ below (gx_Qv D (ww_Fm_readFlagsAndWidth g o o_text o_text_row o_width o_flags (.ref o_text) o_place_v o_after_v (.ref o_flags) (.ref o_width) o_precision_v o_conversion_v o_index_v o_directives o_present o_at (.ref o_text_row) o_text_length o_text_over o_text_row_n o_text_row_c o_width_c o_flags_c) (ww_Fm_readFlagsAndWidth g o o_text o_text_row o_width o_flags (.ref o_text) o_place_v o_after_v (.ref o_flags) (.ref o_width) o_precision_v o_conversion_v o_index_v o_directives o_present r.1 (.ref o_text_row) o_text_length o_text_over o_text_row_n o_text_row_c r.2.2 r.2.1) s.heap.size) ([.ref o, .int a1] : List Value).toArray s 0 0 (va_A (ww_Fm_readFlagsAndWidth g o o_text o_text_row o_width o_flags (.ref o_text) o_place_v o_after_v (.ref o_flags) (.ref o_width) o_precision_v o_conversion_v o_index_v o_directives o_present o_at (.ref o_text_row) o_text_length o_text_over o_text_row_n o_text_row_c o_width_c o_flags_c) s.heap.size)) (F0 m 0 ls [])), ∀ (v1 : Int32) (t0 : Int32) (t1 : Int32) (t2 : Int32) (o_atq : Int32) (o_flags_cq : Nat → Int32) (o_width_cq : Nat → Int32) (ls : Array Slot) (H : Heap) (locs : List Loc), lv_has ls 3 [(0, .ref o), (1, .int v1)] → va_S (va_A (ww_Fm_readFlagsAndWidth g o o_text o_text_row o_width o_flags (.ref o_text) o_place_v o_after_v (.ref o_flags) (.ref o_width) o_precision_v o_conversion_v o_index_v o_directives o_present o_at (.ref o_text_row) o_text_length o_text_over o_text_row_n o_text_row_c o_width_c o_flags_c) s.heap.size) s.heap H locs → va_P D vwC (ww_Fm_readFlagsAndWidth g o o_text o_text_row o_width o_flags (.ref o_text) o_place_v o_after_v (.ref o_flags) (.ref o_width) o_precision_v o_conversion_v o_index_v o_directives o_present o_atq (.ref o_text_row) o_text_length o_text_over o_text_row_n o_text_row_c o_width_cq o_flags_cq) H → va_D (va_A (ww_Fm_readFlagsAndWidth g o o_text o_text_row o_width o_flags (.ref o_text) o_place_v o_after_v (.ref o_flags) (.ref o_width) o_precision_v o_conversion_v o_index_v o_directives o_present o_at (.ref o_text_row) o_text_length o_text_over o_text_row_n o_text_row_c o_width_c o_flags_c) s.heap.size) (ww_Fm_readFlagsAndWidth g o o_text o_text_row o_width o_flags (.ref o_text) o_place_v o_after_v (.ref o_flags) (.ref o_width) o_precision_v o_conversion_v o_index_v o_directives o_present o_atq (.ref o_text_row) o_text_length o_text_over o_text_row_n o_text_row_c o_width_cq o_flags_cq) → (f_Fm_readFlagsAndWidth_78 k0 v1 t0 t1 t2 o_text_row_n o_atq o_text_length o_text_row_c o_flags_cq o_width_cq) = some r → W p l e ({ frames := 5, cells := 0, slots := 0, locals := 112 } : Room) s m ([.ref o, .int a1] : List Value).toArray below meth c H locs 0 0 (MQ below (gx_Qv D (ww_Fm_readFlagsAndWidth g o o_text o_text_row o_width o_flags (.ref o_text) o_place_v o_after_v (.ref o_flags) (.ref o_width) o_precision_v o_conversion_v o_index_v o_directives o_present o_at (.ref o_text_row) o_text_length o_text_over o_text_row_n o_text_row_c o_width_c o_flags_c) (ww_Fm_readFlagsAndWidth g o o_text o_text_row o_width o_flags (.ref o_text) o_place_v o_after_v (.ref o_flags) (.ref o_width) o_precision_v o_conversion_v o_index_v o_directives o_present r.1 (.ref o_text_row) o_text_length o_text_over o_text_row_n o_text_row_c r.2.2 r.2.1) s.heap.size) ([.ref o, .int a1] : List Value).toArray s 0 0 (va_A (ww_Fm_readFlagsAndWidth g o o_text o_text_row o_width o_flags (.ref o_text) o_place_v o_after_v (.ref o_flags) (.ref o_width) o_precision_v o_conversion_v o_index_v o_directives o_present o_at (.ref o_text_row) o_text_length o_text_over o_text_row_n o_text_row_c o_width_c o_flags_c) s.heap.size)) (F0 m 78 ls [.int t0, .int t1, .int t2, .ref o_flags]) := by
    intro k0 hk0
    intro v1 t0 t1 t2 o_atq o_flags_cq o_width_cq ls H locs hl hS hP hD hf
    have hf : (if gx_ok t2 500 = true then k0 v1 o_text_row_n (o_atq + (1 : Int32)) o_text_length o_text_row_c (upd o_flags_cq t2.toNatClampNeg (t1 ||| t0)) o_width_cq else none) = some r := hf
    refine lv_ior S.1 S.2.1 d_Fm_readFlagsAndWidth_78 ?_
    obtain ⟨hin, hf⟩ := gx_chk hf
    refine gx_iast (ws2 := (ww_Fm_readFlagsAndWidth g o o_text o_text_row o_width o_flags (.ref o_text) o_place_v o_after_v (.ref o_flags) (.ref o_width) o_precision_v o_conversion_v o_index_v o_directives o_present o_atq (.ref o_text_row) o_text_length o_text_over o_text_row_n o_text_row_c o_width_cq (upd o_flags_cq t2.toNatClampNeg (t1 ||| t0)))) S E hS hP hD 4 0 rfl rfl hin d_Fm_readFlagsAndWidth_79 rfl (fun H locs hS hP hD => ?_)
    refine lv_aload_n S.1 S.2.1 d_Fm_readFlagsAndWidth_80 rfl (lv_at hl 0 rfl) ?_
    refine lv_dup S.1 S.2.1 d_Fm_readFlagsAndWidth_81 rfl ?_
    refine gx_gf (v := .int o_atq) S E hP 0 rfl rfl i_Fm 10 rfl wd_280 ⟨rfl, rfl, rfl⟩ rfl d_Fm_readFlagsAndWidth_82 ?_
    refine lv_iconst (v := 1) S.1 S.2.1 d_Fm_readFlagsAndWidth_85 (by decide) ?_
    refine lv_iadd S.1 S.2.1 d_Fm_readFlagsAndWidth_86 ?_
    refine gx_pf (v := .int (o_atq + (1 : Int32))) (ws2 := (ww_Fm_readFlagsAndWidth g o o_text o_text_row o_width o_flags (.ref o_text) o_place_v o_after_v (.ref o_flags) (.ref o_width) o_precision_v o_conversion_v o_index_v o_directives o_present (o_atq + (1 : Int32)) (.ref o_text_row) o_text_length o_text_over o_text_row_n o_text_row_c o_width_cq (upd o_flags_cq t2.toNatClampNeg (t1 ||| t0)))) S E hS hP hD 0 rfl rfl i_Fm k_Fm n_Fm 10 rfl wd_280 ⟨rfl, rfl, rfl, rfl⟩ rfl rfl rfl d_Fm_readFlagsAndWidth_87 rfl (fun H locs hS hP hD => ?_)
    refine lv_goto (tgt := 0) S.1 S.2.1 d_Fm_readFlagsAndWidth_90 (by decide) ?_
    exact hk0 v1 (o_atq + (1 : Int32)) (upd o_flags_cq t2.toNatClampNeg (t1 ||| t0)) o_width_cq ls _ _ (lv_sub hl [0, 1] rfl) hS hP hD hf
  have c_93 : ∀ (v1 : Int32) (o_atq : Int32) (o_flags_cq : Nat → Int32) (o_width_cq : Nat → Int32) (ls : Array Slot) (H : Heap) (locs : List Loc), lv_has ls 3 [(0, .ref o), (1, .int v1)] → va_S (va_A (ww_Fm_readFlagsAndWidth g o o_text o_text_row o_width o_flags (.ref o_text) o_place_v o_after_v (.ref o_flags) (.ref o_width) o_precision_v o_conversion_v o_index_v o_directives o_present o_at (.ref o_text_row) o_text_length o_text_over o_text_row_n o_text_row_c o_width_c o_flags_c) s.heap.size) s.heap H locs → va_P D vwC (ww_Fm_readFlagsAndWidth g o o_text o_text_row o_width o_flags (.ref o_text) o_place_v o_after_v (.ref o_flags) (.ref o_width) o_precision_v o_conversion_v o_index_v o_directives o_present o_atq (.ref o_text_row) o_text_length o_text_over o_text_row_n o_text_row_c o_width_cq o_flags_cq) H → va_D (va_A (ww_Fm_readFlagsAndWidth g o o_text o_text_row o_width o_flags (.ref o_text) o_place_v o_after_v (.ref o_flags) (.ref o_width) o_precision_v o_conversion_v o_index_v o_directives o_present o_at (.ref o_text_row) o_text_length o_text_over o_text_row_n o_text_row_c o_width_c o_flags_c) s.heap.size) (ww_Fm_readFlagsAndWidth g o o_text o_text_row o_width o_flags (.ref o_text) o_place_v o_after_v (.ref o_flags) (.ref o_width) o_precision_v o_conversion_v o_index_v o_directives o_present o_atq (.ref o_text_row) o_text_length o_text_over o_text_row_n o_text_row_c o_width_cq o_flags_cq) → (f_Fm_readFlagsAndWidth_93 v1 o_text_row_n o_atq o_text_length o_text_row_c o_flags_cq o_width_cq) = some r → W p l e ({ frames := 5, cells := 0, slots := 0, locals := 112 } : Room) s m ([.ref o, .int a1] : List Value).toArray below meth c H locs 0 0 (MQ below (gx_Qv D (ww_Fm_readFlagsAndWidth g o o_text o_text_row o_width o_flags (.ref o_text) o_place_v o_after_v (.ref o_flags) (.ref o_width) o_precision_v o_conversion_v o_index_v o_directives o_present o_at (.ref o_text_row) o_text_length o_text_over o_text_row_n o_text_row_c o_width_c o_flags_c) (ww_Fm_readFlagsAndWidth g o o_text o_text_row o_width o_flags (.ref o_text) o_place_v o_after_v (.ref o_flags) (.ref o_width) o_precision_v o_conversion_v o_index_v o_directives o_present r.1 (.ref o_text_row) o_text_length o_text_over o_text_row_n o_text_row_c r.2.2 r.2.1) s.heap.size) ([.ref o, .int a1] : List Value).toArray s 0 0 (va_A (ww_Fm_readFlagsAndWidth g o o_text o_text_row o_width o_flags (.ref o_text) o_place_v o_after_v (.ref o_flags) (.ref o_width) o_precision_v o_conversion_v o_index_v o_directives o_present o_at (.ref o_text_row) o_text_length o_text_over o_text_row_n o_text_row_c o_width_c o_flags_c) s.heap.size)) (F0 m 93 ls []) := by
    intro v1 o_atq o_flags_cq o_width_cq ls H locs hl hS hP hD hf
    have hf : ((f_By_at o_atq o_text_row_n o_text_length o_text_row_c).bind fun u101 => (f_Nt_isDigit u101).bind fun u104 => if u104 = 0 then (some (o_atq, o_flags_cq, o_width_cq)) else ((f_Fm_readNumber o_text_row_n o_atq o_text_length o_text_row_c).bind fun u116 => if gx_ok v1 500 = true then some (u116.2, o_flags_cq, upd o_width_cq v1.toNatClampNeg u116.1) else none)) = some r := hf
    refine lv_aload_n S.1 S.2.1 d_Fm_readFlagsAndWidth_93 rfl (lv_at hl 0 rfl) ?_
    refine gx_gf (v := .ref o_text) S E hP 0 rfl rfl i_Fm 0 rfl wd_260 ⟨rfl, rfl, rfl⟩ rfl d_Fm_readFlagsAndWidth_94 ?_
    refine lv_aload_n S.1 S.2.1 d_Fm_readFlagsAndWidth_97 rfl (lv_at hl 0 rfl) ?_
    refine gx_gf (v := .int o_atq) S E hP 0 rfl rfl i_Fm 10 rfl wd_280 ⟨rfl, rfl, rfl⟩ rfl d_Fm_readFlagsAndWidth_98 ?_
    obtain ⟨u101, hc101, hf⟩ := gx_bnd hf
    refine gx_Vi (ws2 := (ww_Fm_readFlagsAndWidth g o o_text o_text_row o_width o_flags (.ref o_text) o_place_v o_after_v (.ref o_flags) (.ref o_width) o_precision_v o_conversion_v o_index_v o_directives o_present o_atq (.ref o_text_row) o_text_length o_text_over o_text_row_n o_text_row_c o_width_cq o_flags_cq)) S E hS hP hD (c_By_at l z D g o_text o_text_row o_text_length o_text_over o_text_row_n o_text_row_c o_atq u101 hc101) cal_By_at wd_752 wd_753 wd_1080 rfl [1, 2] rfl rfl rfl (gx_rc E hP 1 rfl rfl) rfl hl.1 rfl d_Fm_readFlagsAndWidth_101 ⟨Nat.zero_le _, Nat.zero_le _⟩ rfl (fun H locs hS hP hD => ?_)
    obtain ⟨u104, hc104, hf⟩ := gx_bnd hf
    refine gx_Ti (ws2 := (ww_Fm_readFlagsAndWidth g o o_text o_text_row o_width o_flags (.ref o_text) o_place_v o_after_v (.ref o_flags) (.ref o_width) o_precision_v o_conversion_v o_index_v o_directives o_present o_atq (.ref o_text_row) o_text_length o_text_over o_text_row_n o_text_row_c o_width_cq o_flags_cq)) S E hS hP hD (c_Nt_isDigit l z D g u101 u104 hc104) cal_Nt_isDigit wd_790 nst_12 rfl [] rfl rfl rfl rfl hl.1 rfl d_Fm_readFlagsAndWidth_104 ⟨Nat.zero_le _, Nat.zero_le _⟩ rfl (fun H locs hS hP hD => ?_)
    refine lv_if_eq (tgt := 120) S.1 S.2.1 d_Fm_readFlagsAndWidth_107 (by decide) (fun h => ?_) (fun h => ?_)
    ·
      have hf := gx_ifp h hf
      obtain rfl := Option.some.inj hf
      exact gx_rv S hr hlk hS hP hD d_Fm_readFlagsAndWidth_120
    ·
      have hf := gx_ifn h hf
      refine lv_aload_n S.1 S.2.1 d_Fm_readFlagsAndWidth_110 rfl (lv_at hl 0 rfl) ?_
      refine gx_gf (v := .ref o_width) S E hP 0 rfl rfl i_Fm 4 rfl wd_268 ⟨rfl, rfl, rfl⟩ rfl d_Fm_readFlagsAndWidth_111 ?_
      refine lv_iload_n S.1 S.2.1 d_Fm_readFlagsAndWidth_114 rfl (lv_at hl 1 rfl) ?_
      refine lv_aload_n S.1 S.2.1 d_Fm_readFlagsAndWidth_115 rfl (lv_at hl 0 rfl) ?_
      obtain ⟨u116, hc116, hf⟩ := gx_bnd hf
      refine gx_Vi (ws2 := (ww_Fm_readFlagsAndWidth g o o_text o_text_row o_width o_flags (.ref o_text) o_place_v o_after_v (.ref o_flags) (.ref o_width) o_precision_v o_conversion_v o_index_v o_directives o_present u116.2 (.ref o_text_row) o_text_length o_text_over o_text_row_n o_text_row_c o_width_cq o_flags_cq)) S E hS hP hD (c_Fm_readNumber l z D g o o_text o_text_row o_place_v o_after_v (.ref o_flags) (.ref o_width) o_precision_v o_conversion_v o_index_v o_directives o_present o_atq o_text_length o_text_over o_text_row_n o_text_row_c u116 hc116) cal_Fm_readNumber wd_1092 ws_42 wd_1090 rfl [0, 1, 2] rfl rfl rfl (gx_rc E hP 0 rfl rfl) rfl hl.1 rfl d_Fm_readFlagsAndWidth_116 ⟨Nat.zero_le _, Nat.zero_le _⟩ rfl (fun H locs hS hP hD => ?_)
      obtain ⟨hin, hf⟩ := gx_chk hf
      refine gx_iast (ws2 := (ww_Fm_readFlagsAndWidth g o o_text o_text_row o_width o_flags (.ref o_text) o_place_v o_after_v (.ref o_flags) (.ref o_width) o_precision_v o_conversion_v o_index_v o_directives o_present u116.2 (.ref o_text_row) o_text_length o_text_over o_text_row_n o_text_row_c (upd o_width_cq v1.toNatClampNeg u116.1) o_flags_cq)) S E hS hP hD 3 0 rfl rfl hin d_Fm_readFlagsAndWidth_119 rfl (fun H locs hS hP hD => ?_)
      obtain rfl := Option.some.inj hf
      exact gx_rv S hr hlk hS hP hD d_Fm_readFlagsAndWidth_120
  have c_0 : ∀ n : Nat, ∀ (v1 : Int32) (o_atq : Int32) (o_flags_cq : Nat → Int32) (o_width_cq : Nat → Int32) (ls : Array Slot) (H : Heap) (locs : List Loc), lv_has ls 3 [(0, .ref o), (1, .int v1)] → va_S (va_A (ww_Fm_readFlagsAndWidth g o o_text o_text_row o_width o_flags (.ref o_text) o_place_v o_after_v (.ref o_flags) (.ref o_width) o_precision_v o_conversion_v o_index_v o_directives o_present o_at (.ref o_text_row) o_text_length o_text_over o_text_row_n o_text_row_c o_width_c o_flags_c) s.heap.size) s.heap H locs → va_P D vwC (ww_Fm_readFlagsAndWidth g o o_text o_text_row o_width o_flags (.ref o_text) o_place_v o_after_v (.ref o_flags) (.ref o_width) o_precision_v o_conversion_v o_index_v o_directives o_present o_atq (.ref o_text_row) o_text_length o_text_over o_text_row_n o_text_row_c o_width_cq o_flags_cq) H → va_D (va_A (ww_Fm_readFlagsAndWidth g o o_text o_text_row o_width o_flags (.ref o_text) o_place_v o_after_v (.ref o_flags) (.ref o_width) o_precision_v o_conversion_v o_index_v o_directives o_present o_at (.ref o_text_row) o_text_length o_text_over o_text_row_n o_text_row_c o_width_c o_flags_c) s.heap.size) (ww_Fm_readFlagsAndWidth g o o_text o_text_row o_width o_flags (.ref o_text) o_place_v o_after_v (.ref o_flags) (.ref o_width) o_precision_v o_conversion_v o_index_v o_directives o_present o_atq (.ref o_text_row) o_text_length o_text_over o_text_row_n o_text_row_c o_width_cq o_flags_cq) → (f_Fm_readFlagsAndWidth_0 n v1 o_text_row_n o_atq o_text_length o_text_row_c o_flags_cq o_width_cq) = some r → W p l e ({ frames := 5, cells := 0, slots := 0, locals := 112 } : Room) s m ([.ref o, .int a1] : List Value).toArray below meth c H locs 0 0 (MQ below (gx_Qv D (ww_Fm_readFlagsAndWidth g o o_text o_text_row o_width o_flags (.ref o_text) o_place_v o_after_v (.ref o_flags) (.ref o_width) o_precision_v o_conversion_v o_index_v o_directives o_present o_at (.ref o_text_row) o_text_length o_text_over o_text_row_n o_text_row_c o_width_c o_flags_c) (ww_Fm_readFlagsAndWidth g o o_text o_text_row o_width o_flags (.ref o_text) o_place_v o_after_v (.ref o_flags) (.ref o_width) o_precision_v o_conversion_v o_index_v o_directives o_present r.1 (.ref o_text_row) o_text_length o_text_over o_text_row_n o_text_row_c r.2.2 r.2.1) s.heap.size) ([.ref o, .int a1] : List Value).toArray s 0 0 (va_A (ww_Fm_readFlagsAndWidth g o o_text o_text_row o_width o_flags (.ref o_text) o_place_v o_after_v (.ref o_flags) (.ref o_width) o_precision_v o_conversion_v o_index_v o_directives o_present o_at (.ref o_text_row) o_text_length o_text_over o_text_row_n o_text_row_c o_width_c o_flags_c) s.heap.size)) (F0 m 0 ls []) := by
    intro n
    induction n with
    | zero => intro v1 o_atq o_flags_cq o_width_cq ls H locs hl hS hP hD hf; cases hf
    | succ n ih =>
      intro v1 o_atq o_flags_cq o_width_cq ls H locs hl hS hP hD hf
      have hf : (if o_text_length ≤ o_atq then (f_Fm_readFlagsAndWidth_93 v1 o_text_row_n o_atq o_text_length o_text_row_c o_flags_cq o_width_cq) else ((f_By_at o_atq o_text_row_n o_text_length o_text_row_c).bind fun u24 => (f_Fm_has 30 u24).bind fun u27 => if u27 = 0 then (f_Fm_readFlagsAndWidth_93 v1 o_text_row_n o_atq o_text_length o_text_row_c o_flags_cq o_width_cq) else ((f_By_at o_atq o_text_row_n o_text_length o_text_row_c).bind fun u44 => (f_JStr_indexOf 30 ((u44.toUInt32 % 65536).toInt32)).bind fun u48 => if gx_ok v1 500 = true then if gx_ok v1 500 = true then if ((o_flags_cq v1.toNatClampNeg) &&& ((1 : Int32) <<< (u48 &&& 31))) = 0 then (f_Fm_readFlagsAndWidth_78 (fun v1 o_text_row_n o_atq o_text_length o_text_row_c o_flags_cq o_width_cq => f_Fm_readFlagsAndWidth_0 n v1 o_text_row_n o_atq o_text_length o_text_row_c o_flags_cq o_width_cq) v1 ((1 : Int32) <<< (u48 &&& 31)) (o_flags_cq v1.toNatClampNeg) v1 o_text_row_n o_atq o_text_length o_text_row_c o_flags_cq o_width_cq) else (f_Fm_readFlagsAndWidth_78 (fun v1 o_text_row_n o_atq o_text_length o_text_row_c o_flags_cq o_width_cq => f_Fm_readFlagsAndWidth_0 n v1 o_text_row_n o_atq o_text_length o_text_row_c o_flags_cq o_width_cq) v1 (128 : Int32) (o_flags_cq v1.toNatClampNeg) v1 o_text_row_n o_atq o_text_length o_text_row_c o_flags_cq o_width_cq) else none else none))) = some r := hf
      refine lv_aload_n S.1 S.2.1 d_Fm_readFlagsAndWidth_0 rfl (lv_at hl 0 rfl) ?_
      refine gx_gf (v := .int o_atq) S E hP 0 rfl rfl i_Fm 10 rfl wd_280 ⟨rfl, rfl, rfl⟩ rfl d_Fm_readFlagsAndWidth_1 ?_
      refine lv_aload_n S.1 S.2.1 d_Fm_readFlagsAndWidth_4 rfl (lv_at hl 0 rfl) ?_
      refine gx_gf (v := .ref o_text) S E hP 0 rfl rfl i_Fm 0 rfl wd_260 ⟨rfl, rfl, rfl⟩ rfl d_Fm_readFlagsAndWidth_5 ?_
      refine gx_gf (v := .int o_text_length) S E hP 1 rfl rfl i_By 1 rfl wd_50 ⟨rfl, rfl, rfl⟩ rfl d_Fm_readFlagsAndWidth_8 ?_
      refine lv_icmp_ge (tgt := 93) S.1 S.2.1 d_Fm_readFlagsAndWidth_11 (by decide) (fun h => ?_) (fun h => ?_)
      ·
        have hf := gx_ifp h hf
        exact c_93 v1 o_atq o_flags_cq o_width_cq ls _ _ (lv_sub hl [0, 1] rfl) hS hP hD hf
      ·
        have hf := gx_ifn h hf
        refine va_ldcS S.1 S.2.1 S.2.2.2.1 (sr_30 E) d_Fm_readFlagsAndWidth_14 ?_
        refine lv_aload_n S.1 S.2.1 d_Fm_readFlagsAndWidth_16 rfl (lv_at hl 0 rfl) ?_
        refine gx_gf (v := .ref o_text) S E hP 0 rfl rfl i_Fm 0 rfl wd_260 ⟨rfl, rfl, rfl⟩ rfl d_Fm_readFlagsAndWidth_17 ?_
        refine lv_aload_n S.1 S.2.1 d_Fm_readFlagsAndWidth_20 rfl (lv_at hl 0 rfl) ?_
        refine gx_gf (v := .int o_atq) S E hP 0 rfl rfl i_Fm 10 rfl wd_280 ⟨rfl, rfl, rfl⟩ rfl d_Fm_readFlagsAndWidth_21 ?_
        obtain ⟨u24, hc24, hf⟩ := gx_bnd hf
        refine gx_Vi (ws2 := (ww_Fm_readFlagsAndWidth g o o_text o_text_row o_width o_flags (.ref o_text) o_place_v o_after_v (.ref o_flags) (.ref o_width) o_precision_v o_conversion_v o_index_v o_directives o_present o_atq (.ref o_text_row) o_text_length o_text_over o_text_row_n o_text_row_c o_width_cq o_flags_cq)) S E hS hP hD (c_By_at l z D g o_text o_text_row o_text_length o_text_over o_text_row_n o_text_row_c o_atq u24 hc24) cal_By_at wd_752 wd_753 wd_1080 rfl [1, 2] rfl rfl rfl (gx_rc E hP 1 rfl rfl) rfl hl.1 rfl d_Fm_readFlagsAndWidth_24 ⟨Nat.zero_le _, Nat.zero_le _⟩ rfl (fun H locs hS hP hD => ?_)
        obtain ⟨u27, hc27, hf⟩ := gx_bnd hf
        refine gx_Si (ws2 := (ww_Fm_readFlagsAndWidth g o o_text o_text_row o_width o_flags (.ref o_text) o_place_v o_after_v (.ref o_flags) (.ref o_width) o_precision_v o_conversion_v o_index_v o_directives o_present o_atq (.ref o_text_row) o_text_length o_text_over o_text_row_n o_text_row_c o_width_cq o_flags_cq)) S E hS hP hD (c_Fm_has l z D g 30 u24 u27 hc27) cal_Fm_has wd_1101 wd_1100 rfl [] rfl rfl rfl rfl hl.1 rfl d_Fm_readFlagsAndWidth_27 ⟨Nat.zero_le _, Nat.zero_le _⟩ rfl (fun H locs hS hP hD => ?_)
        refine lv_if_eq (tgt := 93) S.1 S.2.1 d_Fm_readFlagsAndWidth_30 (by decide) (fun h => ?_) (fun h => ?_)
        ·
          have hf := gx_ifp h hf
          exact c_93 v1 o_atq o_flags_cq o_width_cq ls _ _ (lv_sub hl [0, 1] rfl) hS hP hD hf
        ·
          have hf := gx_ifn h hf
          refine lv_iconst (v := 1) S.1 S.2.1 d_Fm_readFlagsAndWidth_33 (by decide) ?_
          refine va_ldcS S.1 S.2.1 S.2.2.2.1 (sr_30 E) d_Fm_readFlagsAndWidth_34 ?_
          refine lv_aload_n S.1 S.2.1 d_Fm_readFlagsAndWidth_36 rfl (lv_at hl 0 rfl) ?_
          refine gx_gf (v := .ref o_text) S E hP 0 rfl rfl i_Fm 0 rfl wd_260 ⟨rfl, rfl, rfl⟩ rfl d_Fm_readFlagsAndWidth_37 ?_
          refine lv_aload_n S.1 S.2.1 d_Fm_readFlagsAndWidth_40 rfl (lv_at hl 0 rfl) ?_
          refine gx_gf (v := .int o_atq) S E hP 0 rfl rfl i_Fm 10 rfl wd_280 ⟨rfl, rfl, rfl⟩ rfl d_Fm_readFlagsAndWidth_41 ?_
          obtain ⟨u44, hc44, hf⟩ := gx_bnd hf
          refine gx_Vi (ws2 := (ww_Fm_readFlagsAndWidth g o o_text o_text_row o_width o_flags (.ref o_text) o_place_v o_after_v (.ref o_flags) (.ref o_width) o_precision_v o_conversion_v o_index_v o_directives o_present o_atq (.ref o_text_row) o_text_length o_text_over o_text_row_n o_text_row_c o_width_cq o_flags_cq)) S E hS hP hD (c_By_at l z D g o_text o_text_row o_text_length o_text_over o_text_row_n o_text_row_c o_atq u44 hc44) cal_By_at wd_752 wd_753 wd_1080 rfl [1, 2] rfl rfl rfl (gx_rc E hP 1 rfl rfl) rfl hl.1 rfl d_Fm_readFlagsAndWidth_44 ⟨Nat.zero_le _, Nat.zero_le _⟩ rfl (fun H locs hS hP hD => ?_)
          refine lv_i2c S.1 S.2.1 d_Fm_readFlagsAndWidth_47 rfl ?_
          obtain ⟨u48, hc48, hf⟩ := gx_bnd hf
          refine gx_Vi (ws2 := (ww_Fm_readFlagsAndWidth g o o_text o_text_row o_width o_flags (.ref o_text) o_place_v o_after_v (.ref o_flags) (.ref o_width) o_precision_v o_conversion_v o_index_v o_directives o_present o_atq (.ref o_text_row) o_text_length o_text_over o_text_row_n o_text_row_c o_width_cq o_flags_cq)) S E hS hP hD (c_JStr_indexOf l z D g 30 ((u44.toUInt32 % 65536).toInt32) u48 hc48) cal_JStr_indexOf wd_1104 wd_1105 wd_1103 rfl [] rfl rfl rfl (gx_rcO (gx_stO E (by decide)) hS) rfl hl.1 rfl d_Fm_readFlagsAndWidth_48 ⟨Nat.zero_le _, Nat.zero_le _⟩ rfl (fun H locs hS hP hD => ?_)
          refine lv_ishl S.1 S.2.1 d_Fm_readFlagsAndWidth_51 ?_
          refine lv_istore_n (lv' := [(2, .int ((1 : Int32) <<< (u48 &&& 31))), (0, .ref o), (1, .int v1)]) S.1 S.2.1 d_Fm_readFlagsAndWidth_52 rfl hl (by decide) rfl (fun ls hl => ?_)
          refine lv_aload_n S.1 S.2.1 d_Fm_readFlagsAndWidth_53 rfl (lv_at hl 1 rfl) ?_
          refine gx_gf (v := .ref o_flags) S E hP 0 rfl rfl i_Fm 3 rfl wd_266 ⟨rfl, rfl, rfl⟩ rfl d_Fm_readFlagsAndWidth_54 ?_
          refine lv_iload_n S.1 S.2.1 d_Fm_readFlagsAndWidth_57 rfl (lv_at hl 2 rfl) ?_
          refine lv_dup2_11 S.1 S.2.1 d_Fm_readFlagsAndWidth_58 rfl rfl ?_
          obtain ⟨hin, hf⟩ := gx_chk hf
          refine va_iald S.1 S.2.1 E.1.1 hP 4 0 rfl rfl (gx_okv hin) d_Fm_readFlagsAndWidth_59 ?_
          refine lv_aload_n S.1 S.2.1 d_Fm_readFlagsAndWidth_60 rfl (lv_at hl 1 rfl) ?_
          refine gx_gf (v := .ref o_flags) S E hP 0 rfl rfl i_Fm 3 rfl wd_266 ⟨rfl, rfl, rfl⟩ rfl d_Fm_readFlagsAndWidth_61 ?_
          refine lv_iload_n S.1 S.2.1 d_Fm_readFlagsAndWidth_64 rfl (lv_at hl 2 rfl) ?_
          obtain ⟨hin, hf⟩ := gx_chk hf
          refine va_iald S.1 S.2.1 E.1.1 hP 4 0 rfl rfl (gx_okv hin) d_Fm_readFlagsAndWidth_65 ?_
          refine lv_iload_n S.1 S.2.1 d_Fm_readFlagsAndWidth_66 rfl (lv_at hl 0 rfl) ?_
          refine lv_iand S.1 S.2.1 d_Fm_readFlagsAndWidth_67 ?_
          refine lv_if_eq (tgt := 77) S.1 S.2.1 d_Fm_readFlagsAndWidth_68 (by decide) (fun h => ?_) (fun h => ?_)
          ·
            have hf := gx_ifp h hf
            refine lv_iload_n S.1 S.2.1 d_Fm_readFlagsAndWidth_77 rfl (lv_at hl 0 rfl) ?_
            exact c_78 (fun v1 o_text_row_n o_atq o_text_length o_text_row_c o_flags_cq o_width_cq => f_Fm_readFlagsAndWidth_0 n v1 o_text_row_n o_atq o_text_length o_text_row_c o_flags_cq o_width_cq) ih v1 ((1 : Int32) <<< (u48 &&& 31)) (o_flags_cq v1.toNatClampNeg) v1 o_atq o_flags_cq o_width_cq ls _ _ (lv_sub hl [1, 2] rfl) hS hP hD hf
          ·
            have hf := gx_ifn h hf
            refine lv_sipush (v := 128) S.1 S.2.1 d_Fm_readFlagsAndWidth_71 (by decide) ?_
            refine lv_goto (tgt := 78) S.1 S.2.1 d_Fm_readFlagsAndWidth_74 (by decide) ?_
            exact c_78 (fun v1 o_text_row_n o_atq o_text_length o_text_row_c o_flags_cq o_width_cq => f_Fm_readFlagsAndWidth_0 n v1 o_text_row_n o_atq o_text_length o_text_row_c o_flags_cq o_width_cq) ih v1 (128 : Int32) (o_flags_cq v1.toNatClampNeg) v1 o_atq o_flags_cq o_width_cq ls _ _ (lv_sub hl [1, 2] rfl) hS hP hD hf
  have hf : (f_Fm_readFlagsAndWidth_0 gx_fu a1 o_text_row_n o_at o_text_length o_text_row_c o_flags_c o_width_c) = some r := hf
  exact c_0 gx_fu a1 o_at o_flags_c o_width_c ls _ _ (lv_sub hl [0, 1] rfl) hS hP hD hf
theorem d_Fm_readDirective_0 : decode b_Fm_readDirective 0 = .ok (.aload_n 0, 1) := by decide +kernel
theorem d_Fm_readDirective_1 : decode b_Fm_readDirective 1 = .ok (.getfield 42, 3) := by decide +kernel
theorem d_Fm_readDirective_4 : decode b_Fm_readDirective 4 = .ok (.sipush 500, 3) := by decide +kernel
theorem d_Fm_readDirective_7 : decode b_Fm_readDirective 7 = .ok (.if_icmp .lt 5, 3) := by decide +kernel
theorem d_Fm_readDirective_10 : decode b_Fm_readDirective 10 = .ok (.iconst 0, 1) := by decide +kernel
theorem d_Fm_readDirective_11 : decode b_Fm_readDirective 11 = .ok (.ireturn, 1) := by decide +kernel
theorem d_Fm_readDirective_12 : decode b_Fm_readDirective 12 = .ok (.aload_n 0, 1) := by decide +kernel
theorem d_Fm_readDirective_13 : decode b_Fm_readDirective 13 = .ok (.getfield 42, 3) := by decide +kernel
theorem d_Fm_readDirective_16 : decode b_Fm_readDirective 16 = .ok (.istore_n 2, 1) := by decide +kernel
theorem d_Fm_readDirective_17 : decode b_Fm_readDirective 17 = .ok (.aload_n 0, 1) := by decide +kernel
theorem d_Fm_readDirective_18 : decode b_Fm_readDirective 18 = .ok (.iload_n 1, 1) := by decide +kernel
theorem d_Fm_readDirective_19 : decode b_Fm_readDirective 19 = .ok (.iconst 1, 1) := by decide +kernel
theorem d_Fm_readDirective_20 : decode b_Fm_readDirective 20 = .ok (.iadd, 1) := by decide +kernel
theorem d_Fm_readDirective_21 : decode b_Fm_readDirective 21 = .ok (.putfield 50, 3) := by decide +kernel
theorem d_Fm_readDirective_24 : decode b_Fm_readDirective 24 = .ok (.aload_n 0, 1) := by decide +kernel
theorem d_Fm_readDirective_25 : decode b_Fm_readDirective 25 = .ok (.getfield 20, 3) := by decide +kernel
theorem d_Fm_readDirective_28 : decode b_Fm_readDirective 28 = .ok (.iload_n 2, 1) := by decide +kernel
theorem d_Fm_readDirective_29 : decode b_Fm_readDirective 29 = .ok (.iload_n 1, 1) := by decide +kernel
theorem d_Fm_readDirective_30 : decode b_Fm_readDirective 30 = .ok (.iastore, 1) := by decide +kernel
theorem d_Fm_readDirective_31 : decode b_Fm_readDirective 31 = .ok (.aload_n 0, 1) := by decide +kernel
theorem d_Fm_readDirective_32 : decode b_Fm_readDirective 32 = .ok (.getfield 39, 3) := by decide +kernel
theorem d_Fm_readDirective_35 : decode b_Fm_readDirective 35 = .ok (.iload_n 2, 1) := by decide +kernel
theorem d_Fm_readDirective_36 : decode b_Fm_readDirective 36 = .ok (.iconst 0, 1) := by decide +kernel
theorem d_Fm_readDirective_37 : decode b_Fm_readDirective 37 = .ok (.iastore, 1) := by decide +kernel
theorem d_Fm_readDirective_38 : decode b_Fm_readDirective 38 = .ok (.aload_n 0, 1) := by decide +kernel
theorem d_Fm_readDirective_39 : decode b_Fm_readDirective 39 = .ok (.getfield 27, 3) := by decide +kernel
theorem d_Fm_readDirective_42 : decode b_Fm_readDirective 42 = .ok (.iload_n 2, 1) := by decide +kernel
theorem d_Fm_readDirective_43 : decode b_Fm_readDirective 43 = .ok (.iconst 0, 1) := by decide +kernel
theorem d_Fm_readDirective_44 : decode b_Fm_readDirective 44 = .ok (.iastore, 1) := by decide +kernel
theorem d_Fm_readDirective_45 : decode b_Fm_readDirective 45 = .ok (.aload_n 0, 1) := by decide +kernel
theorem d_Fm_readDirective_46 : decode b_Fm_readDirective 46 = .ok (.getfield 30, 3) := by decide +kernel
theorem d_Fm_readDirective_49 : decode b_Fm_readDirective 49 = .ok (.iload_n 2, 1) := by decide +kernel
theorem d_Fm_readDirective_50 : decode b_Fm_readDirective 50 = .ok (.iconst (-1), 1) := by decide +kernel
theorem d_Fm_readDirective_51 : decode b_Fm_readDirective 51 = .ok (.iastore, 1) := by decide +kernel
theorem d_Fm_readDirective_52 : decode b_Fm_readDirective 52 = .ok (.aload_n 0, 1) := by decide +kernel
theorem d_Fm_readDirective_53 : decode b_Fm_readDirective 53 = .ok (.getfield 33, 3) := by decide +kernel
theorem d_Fm_readDirective_56 : decode b_Fm_readDirective 56 = .ok (.iload_n 2, 1) := by decide +kernel
theorem d_Fm_readDirective_57 : decode b_Fm_readDirective 57 = .ok (.iconst (-1), 1) := by decide +kernel
theorem d_Fm_readDirective_58 : decode b_Fm_readDirective 58 = .ok (.iastore, 1) := by decide +kernel
theorem d_Fm_readDirective_59 : decode b_Fm_readDirective 59 = .ok (.aload_n 0, 1) := by decide +kernel
theorem d_Fm_readDirective_60 : decode b_Fm_readDirective 60 = .ok (.iload_n 2, 1) := by decide +kernel
theorem d_Fm_readDirective_61 : decode b_Fm_readDirective 61 = .ok (.invokevirtual 63, 3) := by decide +kernel
theorem d_Fm_readDirective_64 : decode b_Fm_readDirective 64 = .ok (.aload_n 0, 1) := by decide +kernel
theorem d_Fm_readDirective_65 : decode b_Fm_readDirective 65 = .ok (.getfield 30, 3) := by decide +kernel
theorem d_Fm_readDirective_68 : decode b_Fm_readDirective 68 = .ok (.iload_n 2, 1) := by decide +kernel
theorem d_Fm_readDirective_69 : decode b_Fm_readDirective 69 = .ok (.iaload, 1) := by decide +kernel
theorem d_Fm_readDirective_70 : decode b_Fm_readDirective 70 = .ok (.iconst (-1), 1) := by decide +kernel
theorem d_Fm_readDirective_71 : decode b_Fm_readDirective 71 = .ok (.if_icmp .ne 8, 3) := by decide +kernel
theorem d_Fm_readDirective_74 : decode b_Fm_readDirective 74 = .ok (.aload_n 0, 1) := by decide +kernel
theorem d_Fm_readDirective_75 : decode b_Fm_readDirective 75 = .ok (.iload_n 2, 1) := by decide +kernel
theorem d_Fm_readDirective_76 : decode b_Fm_readDirective 76 = .ok (.invokevirtual 66, 3) := by decide +kernel
theorem d_Fm_readDirective_79 : decode b_Fm_readDirective 79 = .ok (.aload_n 0, 1) := by decide +kernel
theorem d_Fm_readDirective_80 : decode b_Fm_readDirective 80 = .ok (.getfield 16, 3) := by decide +kernel
theorem d_Fm_readDirective_83 : decode b_Fm_readDirective 83 = .ok (.aload_n 0, 1) := by decide +kernel
theorem d_Fm_readDirective_84 : decode b_Fm_readDirective 84 = .ok (.getfield 50, 3) := by decide +kernel
theorem d_Fm_readDirective_87 : decode b_Fm_readDirective 87 = .ok (.invokevirtual 56, 3) := by decide +kernel
theorem d_Fm_readDirective_90 : decode b_Fm_readDirective 90 = .ok (.bipush 46, 2) := by decide +kernel
theorem d_Fm_readDirective_92 : decode b_Fm_readDirective 92 = .ok (.if_icmp .ne 42, 3) := by decide +kernel
theorem d_Fm_readDirective_95 : decode b_Fm_readDirective 95 = .ok (.aload_n 0, 1) := by decide +kernel
theorem d_Fm_readDirective_96 : decode b_Fm_readDirective 96 = .ok (.dup, 1) := by decide +kernel
theorem d_Fm_readDirective_97 : decode b_Fm_readDirective 97 = .ok (.getfield 50, 3) := by decide +kernel
theorem d_Fm_readDirective_100 : decode b_Fm_readDirective 100 = .ok (.iconst 1, 1) := by decide +kernel
theorem d_Fm_readDirective_101 : decode b_Fm_readDirective 101 = .ok (.iadd, 1) := by decide +kernel
theorem d_Fm_readDirective_102 : decode b_Fm_readDirective 102 = .ok (.putfield 50, 3) := by decide +kernel
theorem d_Fm_readDirective_105 : decode b_Fm_readDirective 105 = .ok (.aload_n 0, 1) := by decide +kernel
theorem d_Fm_readDirective_106 : decode b_Fm_readDirective 106 = .ok (.getfield 16, 3) := by decide +kernel
theorem d_Fm_readDirective_109 : decode b_Fm_readDirective 109 = .ok (.aload_n 0, 1) := by decide +kernel
theorem d_Fm_readDirective_110 : decode b_Fm_readDirective 110 = .ok (.getfield 50, 3) := by decide +kernel
theorem d_Fm_readDirective_113 : decode b_Fm_readDirective 113 = .ok (.invokevirtual 56, 3) := by decide +kernel
theorem d_Fm_readDirective_116 : decode b_Fm_readDirective 116 = .ok (.invokestatic 69, 3) := by decide +kernel
theorem d_Fm_readDirective_119 : decode b_Fm_readDirective 119 = .ok (.ifCond .ne 5, 3) := by decide +kernel
theorem d_Fm_readDirective_122 : decode b_Fm_readDirective 122 = .ok (.iconst 0, 1) := by decide +kernel
theorem d_Fm_readDirective_123 : decode b_Fm_readDirective 123 = .ok (.ireturn, 1) := by decide +kernel
theorem d_Fm_readDirective_124 : decode b_Fm_readDirective 124 = .ok (.aload_n 0, 1) := by decide +kernel
theorem d_Fm_readDirective_125 : decode b_Fm_readDirective 125 = .ok (.getfield 33, 3) := by decide +kernel
theorem d_Fm_readDirective_128 : decode b_Fm_readDirective 128 = .ok (.iload_n 2, 1) := by decide +kernel
theorem d_Fm_readDirective_129 : decode b_Fm_readDirective 129 = .ok (.aload_n 0, 1) := by decide +kernel
theorem d_Fm_readDirective_130 : decode b_Fm_readDirective 130 = .ok (.invokevirtual 72, 3) := by decide +kernel
theorem d_Fm_readDirective_133 : decode b_Fm_readDirective 133 = .ok (.iastore, 1) := by decide +kernel
theorem d_Fm_readDirective_134 : decode b_Fm_readDirective 134 = .ok (.aload_n 0, 1) := by decide +kernel
theorem d_Fm_readDirective_135 : decode b_Fm_readDirective 135 = .ok (.getfield 36, 3) := by decide +kernel
theorem d_Fm_readDirective_138 : decode b_Fm_readDirective 138 = .ok (.iload_n 2, 1) := by decide +kernel
theorem d_Fm_readDirective_139 : decode b_Fm_readDirective 139 = .ok (.aload_n 0, 1) := by decide +kernel
theorem d_Fm_readDirective_140 : decode b_Fm_readDirective 140 = .ok (.getfield 16, 3) := by decide +kernel
theorem d_Fm_readDirective_143 : decode b_Fm_readDirective 143 = .ok (.aload_n 0, 1) := by decide +kernel
theorem d_Fm_readDirective_144 : decode b_Fm_readDirective 144 = .ok (.getfield 50, 3) := by decide +kernel
theorem d_Fm_readDirective_147 : decode b_Fm_readDirective 147 = .ok (.invokevirtual 56, 3) := by decide +kernel
theorem d_Fm_readDirective_150 : decode b_Fm_readDirective 150 = .ok (.iastore, 1) := by decide +kernel
theorem d_Fm_readDirective_151 : decode b_Fm_readDirective 151 = .ok (.aload_n 0, 1) := by decide +kernel
theorem d_Fm_readDirective_152 : decode b_Fm_readDirective 152 = .ok (.dup, 1) := by decide +kernel
theorem d_Fm_readDirective_153 : decode b_Fm_readDirective 153 = .ok (.getfield 50, 3) := by decide +kernel
theorem d_Fm_readDirective_156 : decode b_Fm_readDirective 156 = .ok (.iconst 1, 1) := by decide +kernel
theorem d_Fm_readDirective_157 : decode b_Fm_readDirective 157 = .ok (.iadd, 1) := by decide +kernel
theorem d_Fm_readDirective_158 : decode b_Fm_readDirective 158 = .ok (.putfield 50, 3) := by decide +kernel
theorem d_Fm_readDirective_161 : decode b_Fm_readDirective 161 = .ok (.aload_n 0, 1) := by decide +kernel
theorem d_Fm_readDirective_162 : decode b_Fm_readDirective 162 = .ok (.getfield 24, 3) := by decide +kernel
theorem d_Fm_readDirective_165 : decode b_Fm_readDirective 165 = .ok (.iload_n 2, 1) := by decide +kernel
theorem d_Fm_readDirective_166 : decode b_Fm_readDirective 166 = .ok (.aload_n 0, 1) := by decide +kernel
theorem d_Fm_readDirective_167 : decode b_Fm_readDirective 167 = .ok (.getfield 50, 3) := by decide +kernel
theorem d_Fm_readDirective_170 : decode b_Fm_readDirective 170 = .ok (.iastore, 1) := by decide +kernel
theorem d_Fm_readDirective_171 : decode b_Fm_readDirective 171 = .ok (.aload_n 0, 1) := by decide +kernel
theorem d_Fm_readDirective_172 : decode b_Fm_readDirective 172 = .ok (.dup, 1) := by decide +kernel
theorem d_Fm_readDirective_173 : decode b_Fm_readDirective 173 = .ok (.getfield 42, 3) := by decide +kernel
theorem d_Fm_readDirective_176 : decode b_Fm_readDirective 176 = .ok (.iconst 1, 1) := by decide +kernel
theorem d_Fm_readDirective_177 : decode b_Fm_readDirective 177 = .ok (.iadd, 1) := by decide +kernel
theorem d_Fm_readDirective_178 : decode b_Fm_readDirective 178 = .ok (.putfield 42, 3) := by decide +kernel
theorem d_Fm_readDirective_181 : decode b_Fm_readDirective 181 = .ok (.aload_n 0, 1) := by decide +kernel
theorem d_Fm_readDirective_182 : decode b_Fm_readDirective 182 = .ok (.getfield 39, 3) := by decide +kernel
theorem d_Fm_readDirective_185 : decode b_Fm_readDirective 185 = .ok (.iload_n 2, 1) := by decide +kernel
theorem d_Fm_readDirective_186 : decode b_Fm_readDirective 186 = .ok (.iaload, 1) := by decide +kernel
theorem d_Fm_readDirective_187 : decode b_Fm_readDirective 187 = .ok (.sipush 9999, 3) := by decide +kernel
theorem d_Fm_readDirective_190 : decode b_Fm_readDirective 190 = .ok (.if_icmp .gt 45, 3) := by decide +kernel
theorem d_Fm_readDirective_193 : decode b_Fm_readDirective 193 = .ok (.aload_n 0, 1) := by decide +kernel
theorem d_Fm_readDirective_194 : decode b_Fm_readDirective 194 = .ok (.getfield 30, 3) := by decide +kernel
theorem d_Fm_readDirective_197 : decode b_Fm_readDirective 197 = .ok (.iload_n 2, 1) := by decide +kernel
theorem d_Fm_readDirective_198 : decode b_Fm_readDirective 198 = .ok (.iaload, 1) := by decide +kernel
theorem d_Fm_readDirective_199 : decode b_Fm_readDirective 199 = .ok (.sipush 9999, 3) := by decide +kernel
theorem d_Fm_readDirective_202 : decode b_Fm_readDirective 202 = .ok (.if_icmp .gt 33, 3) := by decide +kernel
theorem d_Fm_readDirective_205 : decode b_Fm_readDirective 205 = .ok (.aload_n 0, 1) := by decide +kernel
theorem d_Fm_readDirective_206 : decode b_Fm_readDirective 206 = .ok (.getfield 33, 3) := by decide +kernel
theorem d_Fm_readDirective_209 : decode b_Fm_readDirective 209 = .ok (.iload_n 2, 1) := by decide +kernel
theorem d_Fm_readDirective_210 : decode b_Fm_readDirective 210 = .ok (.iaload, 1) := by decide +kernel
theorem d_Fm_readDirective_211 : decode b_Fm_readDirective 211 = .ok (.sipush 9999, 3) := by decide +kernel
theorem d_Fm_readDirective_214 : decode b_Fm_readDirective 214 = .ok (.if_icmp .gt 21, 3) := by decide +kernel
theorem d_Fm_readDirective_217 : decode b_Fm_readDirective 217 = .ok (.ldc 76, 2) := by decide +kernel
theorem d_Fm_readDirective_219 : decode b_Fm_readDirective 219 = .ok (.aload_n 0, 1) := by decide +kernel
theorem d_Fm_readDirective_220 : decode b_Fm_readDirective 220 = .ok (.getfield 36, 3) := by decide +kernel
theorem d_Fm_readDirective_223 : decode b_Fm_readDirective 223 = .ok (.iload_n 2, 1) := by decide +kernel
theorem d_Fm_readDirective_224 : decode b_Fm_readDirective 224 = .ok (.iaload, 1) := by decide +kernel
theorem d_Fm_readDirective_225 : decode b_Fm_readDirective 225 = .ok (.invokestatic 78, 3) := by decide +kernel
theorem d_Fm_readDirective_228 : decode b_Fm_readDirective 228 = .ok (.ifCond .eq 7, 3) := by decide +kernel
theorem d_Fm_readDirective_231 : decode b_Fm_readDirective 231 = .ok (.iconst 1, 1) := by decide +kernel
theorem d_Fm_readDirective_232 : decode b_Fm_readDirective 232 = .ok (.goto 4, 3) := by decide +kernel
theorem d_Fm_readDirective_235 : decode b_Fm_readDirective 235 = .ok (.iconst 0, 1) := by decide +kernel
theorem d_Fm_readDirective_236 : decode b_Fm_readDirective 236 = .ok (.ireturn, 1) := by decide +kernel
theorem cal_Fm_readDirective : gx_cal y_Fm_readDirective b_Fm_readDirective 3 (some .boolean) 1 := ⟨wd_1084, wd_11, by decide +kernel⟩
def ww_Fm_readDirective (g : Nat → ClassId) (o : Nat) (o_place : Nat) (o_index : Nat) (o_flags : Nat) (o_width : Nat) (o_precision : Nat) (o_text : Nat) (o_text_row : Nat) (o_conversion : Nat) (o_after : Nat) (x_o_text : Value) (x_o_place : Value) (x_o_after : Value) (x_o_flags : Value) (x_o_width : Value) (x_o_precision : Value) (x_o_conversion : Value) (x_o_index : Value) (x_o_directives : Int32) (x_o_present : Int32) (x_o_at : Int32) (y_o_place : Nat → Int32) (y_o_index : Nat → Int32) (y_o_flags : Nat → Int32) (y_o_width : Nat → Int32) (y_o_precision : Nat → Int32) (x_o_text_row : Value) (x_o_text_length : Int32) (x_o_text_over : Int32) (o_text_row_n : Nat) (y_o_text_row : Nat → Int32) (y_o_conversion : Nat → Int32) (y_o_after : Nat → Int32) : va_W := [(o, .inr (5, [x_o_text, x_o_place, x_o_after, x_o_flags, x_o_width, x_o_precision, x_o_conversion, x_o_index, .int x_o_directives, .int x_o_present, .int x_o_at])), (o_place, .inl (g 0, 500, .inl y_o_place)), (o_index, .inl (g 0, 500, .inl y_o_index)), (o_flags, .inl (g 0, 500, .inl y_o_flags)), (o_width, .inl (g 0, 500, .inl y_o_width)), (o_precision, .inl (g 0, 500, .inl y_o_precision)), (o_text, .inr (3, [x_o_text_row, .int x_o_text_length, .int x_o_text_over])), (o_text_row, .inl (g 1, o_text_row_n, .inl y_o_text_row)), (o_conversion, .inl (g 0, 500, .inl y_o_conversion)), (o_after, .inl (g 0, 500, .inl y_o_after))]
def f_Fm_readDirective_235 (o_text_row_n : Nat) (o_directivesq : Int32) (o_atq : Int32) (o_text_length : Int32) (o_text_row_c : Nat → Int32) (o_width_cq : Nat → Int32) (o_index_cq : Nat → Int32) (o_precision_cq : Nat → Int32) (o_conversion_cq : Nat → Int32) (o_flags_cq : Nat → Int32) (o_place_cq : Nat → Int32) (o_after_cq : Nat → Int32) : Option (Int32 × Int32 × Int32 × (Nat → Int32) × (Nat → Int32) × (Nat → Int32) × (Nat → Int32) × (Nat → Int32) × (Nat → Int32) × (Nat → Int32)) := some ((0 : Int32), o_directivesq, o_atq, o_width_cq, o_index_cq, o_precision_cq, o_conversion_cq, o_flags_cq, o_place_cq, o_after_cq)
def f_Fm_readDirective_134 (v2 : Int32) (o_text_row_n : Nat) (o_directivesq : Int32) (o_atq : Int32) (o_text_length : Int32) (o_text_row_c : Nat → Int32) (o_width_cq : Nat → Int32) (o_index_cq : Nat → Int32) (o_precision_cq : Nat → Int32) (o_conversion_cq : Nat → Int32) (o_flags_cq : Nat → Int32) (o_place_cq : Nat → Int32) (o_after_cq : Nat → Int32) : Option (Int32 × Int32 × Int32 × (Nat → Int32) × (Nat → Int32) × (Nat → Int32) × (Nat → Int32) × (Nat → Int32) × (Nat → Int32) × (Nat → Int32)) := (f_By_at o_atq o_text_row_n o_text_length o_text_row_c).bind fun u147 => if gx_ok v2 500 = true then if gx_ok v2 500 = true then if gx_ok v2 500 = true then if (9999 : Int32) < (o_index_cq v2.toNatClampNeg) then (f_Fm_readDirective_235 o_text_row_n (o_directivesq + (1 : Int32)) (o_atq + (1 : Int32)) o_text_length o_text_row_c o_width_cq o_index_cq o_precision_cq (upd o_conversion_cq v2.toNatClampNeg u147) o_flags_cq o_place_cq (upd o_after_cq v2.toNatClampNeg (o_atq + (1 : Int32)))) else (if gx_ok v2 500 = true then if (9999 : Int32) < (o_width_cq v2.toNatClampNeg) then (f_Fm_readDirective_235 o_text_row_n (o_directivesq + (1 : Int32)) (o_atq + (1 : Int32)) o_text_length o_text_row_c o_width_cq o_index_cq o_precision_cq (upd o_conversion_cq v2.toNatClampNeg u147) o_flags_cq o_place_cq (upd o_after_cq v2.toNatClampNeg (o_atq + (1 : Int32)))) else (if gx_ok v2 500 = true then if (9999 : Int32) < (o_precision_cq v2.toNatClampNeg) then (f_Fm_readDirective_235 o_text_row_n (o_directivesq + (1 : Int32)) (o_atq + (1 : Int32)) o_text_length o_text_row_c o_width_cq o_index_cq o_precision_cq (upd o_conversion_cq v2.toNatClampNeg u147) o_flags_cq o_place_cq (upd o_after_cq v2.toNatClampNeg (o_atq + (1 : Int32)))) else (if gx_ok v2 500 = true then (f_Fm_has 31 ((upd o_conversion_cq v2.toNatClampNeg u147) v2.toNatClampNeg)).bind fun u225 => if u225 = 0 then (f_Fm_readDirective_235 o_text_row_n (o_directivesq + (1 : Int32)) (o_atq + (1 : Int32)) o_text_length o_text_row_c o_width_cq o_index_cq o_precision_cq (upd o_conversion_cq v2.toNatClampNeg u147) o_flags_cq o_place_cq (upd o_after_cq v2.toNatClampNeg (o_atq + (1 : Int32)))) else (some ((1 : Int32), o_directivesq + (1 : Int32), o_atq + (1 : Int32), o_width_cq, o_index_cq, o_precision_cq, upd o_conversion_cq v2.toNatClampNeg u147, o_flags_cq, o_place_cq, upd o_after_cq v2.toNatClampNeg (o_atq + (1 : Int32)))) else none) else none) else none) else none else none else none
def f_Fm_readDirective_79 (v2 : Int32) (o_text_row_n : Nat) (o_directivesq : Int32) (o_atq : Int32) (o_text_length : Int32) (o_text_row_c : Nat → Int32) (o_width_cq : Nat → Int32) (o_index_cq : Nat → Int32) (o_precision_cq : Nat → Int32) (o_conversion_cq : Nat → Int32) (o_flags_cq : Nat → Int32) (o_place_cq : Nat → Int32) (o_after_cq : Nat → Int32) : Option (Int32 × Int32 × Int32 × (Nat → Int32) × (Nat → Int32) × (Nat → Int32) × (Nat → Int32) × (Nat → Int32) × (Nat → Int32) × (Nat → Int32)) := (f_By_at o_atq o_text_row_n o_text_length o_text_row_c).bind fun u87 => if u87 = (46 : Int32) then ((f_By_at (o_atq + (1 : Int32)) o_text_row_n o_text_length o_text_row_c).bind fun u113 => (f_Nt_isDigit u113).bind fun u116 => if u116 = 0 then (some ((0 : Int32), o_directivesq, o_atq + (1 : Int32), o_width_cq, o_index_cq, o_precision_cq, o_conversion_cq, o_flags_cq, o_place_cq, o_after_cq)) else ((f_Fm_readNumber o_text_row_n (o_atq + (1 : Int32)) o_text_length o_text_row_c).bind fun u130 => if gx_ok v2 500 = true then f_Fm_readDirective_134 v2 o_text_row_n o_directivesq u130.2 o_text_length o_text_row_c o_width_cq o_index_cq (upd o_precision_cq v2.toNatClampNeg u130.1) o_conversion_cq o_flags_cq o_place_cq o_after_cq else none)) else (f_Fm_readDirective_134 v2 o_text_row_n o_directivesq o_atq o_text_length o_text_row_c o_width_cq o_index_cq o_precision_cq o_conversion_cq o_flags_cq o_place_cq o_after_cq)
def f_Fm_readDirective (a1 : Int32) (o_text_row_n : Nat) (o_directives : Int32) (o_at : Int32) (o_text_length : Int32) (o_text_row_c : Nat → Int32) (o_width_c : Nat → Int32) (o_index_c : Nat → Int32) (o_precision_c : Nat → Int32) (o_conversion_c : Nat → Int32) (o_flags_c : Nat → Int32) (o_place_c : Nat → Int32) (o_after_c : Nat → Int32) : Option (Int32 × Int32 × Int32 × (Nat → Int32) × (Nat → Int32) × (Nat → Int32) × (Nat → Int32) × (Nat → Int32) × (Nat → Int32) × (Nat → Int32)) := if o_directives < (500 : Int32) then (if gx_ok o_directives 500 = true then if gx_ok o_directives 500 = true then if gx_ok o_directives 500 = true then if gx_ok o_directives 500 = true then if gx_ok o_directives 500 = true then (f_Fm_readIndexOrWidth o_directives o_text_row_n (a1 + (1 : Int32)) o_text_length o_text_row_c (upd o_width_c o_directives.toNatClampNeg (-1 : Int32)) (upd o_index_c o_directives.toNatClampNeg (0 : Int32))).bind fun u61 => if gx_ok o_directives 500 = true then if (u61.2.1 o_directives.toNatClampNeg) = (-1 : Int32) then ((f_Fm_readFlagsAndWidth o_directives o_text_row_n u61.1 o_text_length o_text_row_c (upd o_flags_c o_directives.toNatClampNeg (0 : Int32)) u61.2.1).bind fun u76 => f_Fm_readDirective_79 o_directives o_text_row_n o_directives u76.1 o_text_length o_text_row_c u76.2.2 u61.2.2 (upd o_precision_c o_directives.toNatClampNeg (-1 : Int32)) o_conversion_c u76.2.1 (upd o_place_c o_directives.toNatClampNeg a1) o_after_c) else (f_Fm_readDirective_79 o_directives o_text_row_n o_directives u61.1 o_text_length o_text_row_c u61.2.1 u61.2.2 (upd o_precision_c o_directives.toNatClampNeg (-1 : Int32)) o_conversion_c (upd o_flags_c o_directives.toNatClampNeg (0 : Int32)) (upd o_place_c o_directives.toNatClampNeg a1) o_after_c) else none else none else none else none else none else none) else (some ((0 : Int32), o_directives, o_at, o_width_c, o_index_c, o_precision_c, o_conversion_c, o_flags_c, o_place_c, o_after_c))
set_option maxHeartbeats 4000000 in
set_option maxRecDepth 100000 in
theorem c_Fm_readDirective (l : Launch) (z : State) (D : va_G) (g : Nat → ClassId) (o : Nat) (o_place : Nat) (o_index : Nat) (o_flags : Nat) (o_width : Nat) (o_precision : Nat) (o_text : Nat) (o_text_row : Nat) (o_conversion : Nat) (o_after : Nat) (o_directives : Int32) (o_present : Int32) (o_at : Int32) (o_place_c : Nat → Int32) (o_index_c : Nat → Int32) (o_flags_c : Nat → Int32) (o_width_c : Nat → Int32) (o_precision_c : Nat → Int32) (o_text_length : Int32) (o_text_over : Int32) (o_text_row_n : Nat) (o_text_row_c : Nat → Int32) (o_conversion_c : Nat → Int32) (o_after_c : Nat → Int32) (a1 : Int32) (r : Int32 × Int32 × Int32 × (Nat → Int32) × (Nat → Int32) × (Nat → Int32) × (Nat → Int32) × (Nat → Int32) × (Nat → Int32) × (Nat → Int32)) (hf : f_Fm_readDirective a1 o_text_row_n o_directives o_at o_text_length o_text_row_c o_width_c o_index_c o_precision_c o_conversion_c o_flags_c o_place_c o_after_c = some r) : gx_Mi l z D g y_Fm_readDirective b_Fm_readDirective 3 .boolean ({ frames := 6, cells := 0, slots := 0, locals := 134 } : Room) [.ref o, .int a1] (ww_Fm_readDirective g o o_place o_index o_flags o_width o_precision o_text o_text_row o_conversion o_after (.ref o_text) (.ref o_place) (.ref o_after) (.ref o_flags) (.ref o_width) (.ref o_precision) (.ref o_conversion) (.ref o_index) o_directives o_present o_at o_place_c o_index_c o_flags_c o_width_c o_precision_c (.ref o_text_row) o_text_length o_text_over o_text_row_n o_text_row_c o_conversion_c o_after_c) (ww_Fm_readDirective g o o_place o_index o_flags o_width o_precision o_text o_text_row o_conversion o_after (.ref o_text) (.ref o_place) (.ref o_after) (.ref o_flags) (.ref o_width) (.ref o_precision) (.ref o_conversion) (.ref o_index) r.2.1 o_present r.2.2.1 r.2.2.2.2.2.2.2.2.1 r.2.2.2.2.1 r.2.2.2.2.2.2.2.1 r.2.2.2.1 r.2.2.2.2.2.1 (.ref o_text_row) o_text_length o_text_over o_text_row_n o_text_row_c r.2.2.2.2.2.2.1 r.2.2.2.2.2.2.2.2.2) r.1 := by
  refine gx_go (by decide +kernel) rfl ?_
  intro p e s m below meth c ls S hr hlk hnm E hP hD hl
  have hS : va_S (va_A (ww_Fm_readDirective g o o_place o_index o_flags o_width o_precision o_text o_text_row o_conversion o_after (.ref o_text) (.ref o_place) (.ref o_after) (.ref o_flags) (.ref o_width) (.ref o_precision) (.ref o_conversion) (.ref o_index) o_directives o_present o_at o_place_c o_index_c o_flags_c o_width_c o_precision_c (.ref o_text_row) o_text_length o_text_over o_text_row_n o_text_row_c o_conversion_c o_after_c) s.heap.size) s.heap s.heap [] := va_S.rf
  have hl : lv_has ls 3 [(0, .ref o), (1, .int a1)] := hl
  have c_235 : ∀ (o_directivesq : Int32) (o_atq : Int32) (o_width_cq : Nat → Int32) (o_index_cq : Nat → Int32) (o_precision_cq : Nat → Int32) (o_conversion_cq : Nat → Int32) (o_flags_cq : Nat → Int32) (o_place_cq : Nat → Int32) (o_after_cq : Nat → Int32) (ls : Array Slot) (H : Heap) (locs : List Loc), lv_has ls 3 [] → va_S (va_A (ww_Fm_readDirective g o o_place o_index o_flags o_width o_precision o_text o_text_row o_conversion o_after (.ref o_text) (.ref o_place) (.ref o_after) (.ref o_flags) (.ref o_width) (.ref o_precision) (.ref o_conversion) (.ref o_index) o_directives o_present o_at o_place_c o_index_c o_flags_c o_width_c o_precision_c (.ref o_text_row) o_text_length o_text_over o_text_row_n o_text_row_c o_conversion_c o_after_c) s.heap.size) s.heap H locs → va_P D vwC (ww_Fm_readDirective g o o_place o_index o_flags o_width o_precision o_text o_text_row o_conversion o_after (.ref o_text) (.ref o_place) (.ref o_after) (.ref o_flags) (.ref o_width) (.ref o_precision) (.ref o_conversion) (.ref o_index) o_directivesq o_present o_atq o_place_cq o_index_cq o_flags_cq o_width_cq o_precision_cq (.ref o_text_row) o_text_length o_text_over o_text_row_n o_text_row_c o_conversion_cq o_after_cq) H → va_D (va_A (ww_Fm_readDirective g o o_place o_index o_flags o_width o_precision o_text o_text_row o_conversion o_after (.ref o_text) (.ref o_place) (.ref o_after) (.ref o_flags) (.ref o_width) (.ref o_precision) (.ref o_conversion) (.ref o_index) o_directives o_present o_at o_place_c o_index_c o_flags_c o_width_c o_precision_c (.ref o_text_row) o_text_length o_text_over o_text_row_n o_text_row_c o_conversion_c o_after_c) s.heap.size) (ww_Fm_readDirective g o o_place o_index o_flags o_width o_precision o_text o_text_row o_conversion o_after (.ref o_text) (.ref o_place) (.ref o_after) (.ref o_flags) (.ref o_width) (.ref o_precision) (.ref o_conversion) (.ref o_index) o_directivesq o_present o_atq o_place_cq o_index_cq o_flags_cq o_width_cq o_precision_cq (.ref o_text_row) o_text_length o_text_over o_text_row_n o_text_row_c o_conversion_cq o_after_cq) → (f_Fm_readDirective_235 o_text_row_n o_directivesq o_atq o_text_length o_text_row_c o_width_cq o_index_cq o_precision_cq o_conversion_cq o_flags_cq o_place_cq o_after_cq) = some r → W p l e ({ frames := 6, cells := 0, slots := 0, locals := 134 } : Room) s m ([.ref o, .int a1] : List Value).toArray below meth c H locs 0 0 (MQ below (gx_Qi D (ww_Fm_readDirective g o o_place o_index o_flags o_width o_precision o_text o_text_row o_conversion o_after (.ref o_text) (.ref o_place) (.ref o_after) (.ref o_flags) (.ref o_width) (.ref o_precision) (.ref o_conversion) (.ref o_index) o_directives o_present o_at o_place_c o_index_c o_flags_c o_width_c o_precision_c (.ref o_text_row) o_text_length o_text_over o_text_row_n o_text_row_c o_conversion_c o_after_c) (ww_Fm_readDirective g o o_place o_index o_flags o_width o_precision o_text o_text_row o_conversion o_after (.ref o_text) (.ref o_place) (.ref o_after) (.ref o_flags) (.ref o_width) (.ref o_precision) (.ref o_conversion) (.ref o_index) r.2.1 o_present r.2.2.1 r.2.2.2.2.2.2.2.2.1 r.2.2.2.2.1 r.2.2.2.2.2.2.2.1 r.2.2.2.1 r.2.2.2.2.2.1 (.ref o_text_row) o_text_length o_text_over o_text_row_n o_text_row_c r.2.2.2.2.2.2.1 r.2.2.2.2.2.2.2.2.2) r.1 s.heap.size) ([.ref o, .int a1] : List Value).toArray s 0 0 (va_A (ww_Fm_readDirective g o o_place o_index o_flags o_width o_precision o_text o_text_row o_conversion o_after (.ref o_text) (.ref o_place) (.ref o_after) (.ref o_flags) (.ref o_width) (.ref o_precision) (.ref o_conversion) (.ref o_index) o_directives o_present o_at o_place_c o_index_c o_flags_c o_width_c o_precision_c (.ref o_text_row) o_text_length o_text_over o_text_row_n o_text_row_c o_conversion_c o_after_c) s.heap.size)) (F0 m 235 ls []) := by
    intro o_directivesq o_atq o_width_cq o_index_cq o_precision_cq o_conversion_cq o_flags_cq o_place_cq o_after_cq ls H locs hl hS hP hD hf
    have hf : (some ((0 : Int32), o_directivesq, o_atq, o_width_cq, o_index_cq, o_precision_cq, o_conversion_cq, o_flags_cq, o_place_cq, o_after_cq)) = some r := hf
    refine lv_iconst (v := 0) S.1 S.2.1 d_Fm_readDirective_235 (by decide) ?_
    obtain rfl := Option.some.inj hf
    exact gx_rz S hr gx_n0 hlk hS hP hD d_Fm_readDirective_236
  have c_134 : ∀ (v2 : Int32) (o_directivesq : Int32) (o_atq : Int32) (o_width_cq : Nat → Int32) (o_index_cq : Nat → Int32) (o_precision_cq : Nat → Int32) (o_conversion_cq : Nat → Int32) (o_flags_cq : Nat → Int32) (o_place_cq : Nat → Int32) (o_after_cq : Nat → Int32) (ls : Array Slot) (H : Heap) (locs : List Loc), lv_has ls 3 [(0, .ref o), (2, .int v2)] → va_S (va_A (ww_Fm_readDirective g o o_place o_index o_flags o_width o_precision o_text o_text_row o_conversion o_after (.ref o_text) (.ref o_place) (.ref o_after) (.ref o_flags) (.ref o_width) (.ref o_precision) (.ref o_conversion) (.ref o_index) o_directives o_present o_at o_place_c o_index_c o_flags_c o_width_c o_precision_c (.ref o_text_row) o_text_length o_text_over o_text_row_n o_text_row_c o_conversion_c o_after_c) s.heap.size) s.heap H locs → va_P D vwC (ww_Fm_readDirective g o o_place o_index o_flags o_width o_precision o_text o_text_row o_conversion o_after (.ref o_text) (.ref o_place) (.ref o_after) (.ref o_flags) (.ref o_width) (.ref o_precision) (.ref o_conversion) (.ref o_index) o_directivesq o_present o_atq o_place_cq o_index_cq o_flags_cq o_width_cq o_precision_cq (.ref o_text_row) o_text_length o_text_over o_text_row_n o_text_row_c o_conversion_cq o_after_cq) H → va_D (va_A (ww_Fm_readDirective g o o_place o_index o_flags o_width o_precision o_text o_text_row o_conversion o_after (.ref o_text) (.ref o_place) (.ref o_after) (.ref o_flags) (.ref o_width) (.ref o_precision) (.ref o_conversion) (.ref o_index) o_directives o_present o_at o_place_c o_index_c o_flags_c o_width_c o_precision_c (.ref o_text_row) o_text_length o_text_over o_text_row_n o_text_row_c o_conversion_c o_after_c) s.heap.size) (ww_Fm_readDirective g o o_place o_index o_flags o_width o_precision o_text o_text_row o_conversion o_after (.ref o_text) (.ref o_place) (.ref o_after) (.ref o_flags) (.ref o_width) (.ref o_precision) (.ref o_conversion) (.ref o_index) o_directivesq o_present o_atq o_place_cq o_index_cq o_flags_cq o_width_cq o_precision_cq (.ref o_text_row) o_text_length o_text_over o_text_row_n o_text_row_c o_conversion_cq o_after_cq) → (f_Fm_readDirective_134 v2 o_text_row_n o_directivesq o_atq o_text_length o_text_row_c o_width_cq o_index_cq o_precision_cq o_conversion_cq o_flags_cq o_place_cq o_after_cq) = some r → W p l e ({ frames := 6, cells := 0, slots := 0, locals := 134 } : Room) s m ([.ref o, .int a1] : List Value).toArray below meth c H locs 0 0 (MQ below (gx_Qi D (ww_Fm_readDirective g o o_place o_index o_flags o_width o_precision o_text o_text_row o_conversion o_after (.ref o_text) (.ref o_place) (.ref o_after) (.ref o_flags) (.ref o_width) (.ref o_precision) (.ref o_conversion) (.ref o_index) o_directives o_present o_at o_place_c o_index_c o_flags_c o_width_c o_precision_c (.ref o_text_row) o_text_length o_text_over o_text_row_n o_text_row_c o_conversion_c o_after_c) (ww_Fm_readDirective g o o_place o_index o_flags o_width o_precision o_text o_text_row o_conversion o_after (.ref o_text) (.ref o_place) (.ref o_after) (.ref o_flags) (.ref o_width) (.ref o_precision) (.ref o_conversion) (.ref o_index) r.2.1 o_present r.2.2.1 r.2.2.2.2.2.2.2.2.1 r.2.2.2.2.1 r.2.2.2.2.2.2.2.1 r.2.2.2.1 r.2.2.2.2.2.1 (.ref o_text_row) o_text_length o_text_over o_text_row_n o_text_row_c r.2.2.2.2.2.2.1 r.2.2.2.2.2.2.2.2.2) r.1 s.heap.size) ([.ref o, .int a1] : List Value).toArray s 0 0 (va_A (ww_Fm_readDirective g o o_place o_index o_flags o_width o_precision o_text o_text_row o_conversion o_after (.ref o_text) (.ref o_place) (.ref o_after) (.ref o_flags) (.ref o_width) (.ref o_precision) (.ref o_conversion) (.ref o_index) o_directives o_present o_at o_place_c o_index_c o_flags_c o_width_c o_precision_c (.ref o_text_row) o_text_length o_text_over o_text_row_n o_text_row_c o_conversion_c o_after_c) s.heap.size)) (F0 m 134 ls []) := by
    intro v2 o_directivesq o_atq o_width_cq o_index_cq o_precision_cq o_conversion_cq o_flags_cq o_place_cq o_after_cq ls H locs hl hS hP hD hf
    have hf : ((f_By_at o_atq o_text_row_n o_text_length o_text_row_c).bind fun u147 => if gx_ok v2 500 = true then if gx_ok v2 500 = true then if gx_ok v2 500 = true then if (9999 : Int32) < (o_index_cq v2.toNatClampNeg) then (f_Fm_readDirective_235 o_text_row_n (o_directivesq + (1 : Int32)) (o_atq + (1 : Int32)) o_text_length o_text_row_c o_width_cq o_index_cq o_precision_cq (upd o_conversion_cq v2.toNatClampNeg u147) o_flags_cq o_place_cq (upd o_after_cq v2.toNatClampNeg (o_atq + (1 : Int32)))) else (if gx_ok v2 500 = true then if (9999 : Int32) < (o_width_cq v2.toNatClampNeg) then (f_Fm_readDirective_235 o_text_row_n (o_directivesq + (1 : Int32)) (o_atq + (1 : Int32)) o_text_length o_text_row_c o_width_cq o_index_cq o_precision_cq (upd o_conversion_cq v2.toNatClampNeg u147) o_flags_cq o_place_cq (upd o_after_cq v2.toNatClampNeg (o_atq + (1 : Int32)))) else (if gx_ok v2 500 = true then if (9999 : Int32) < (o_precision_cq v2.toNatClampNeg) then (f_Fm_readDirective_235 o_text_row_n (o_directivesq + (1 : Int32)) (o_atq + (1 : Int32)) o_text_length o_text_row_c o_width_cq o_index_cq o_precision_cq (upd o_conversion_cq v2.toNatClampNeg u147) o_flags_cq o_place_cq (upd o_after_cq v2.toNatClampNeg (o_atq + (1 : Int32)))) else (if gx_ok v2 500 = true then (f_Fm_has 31 ((upd o_conversion_cq v2.toNatClampNeg u147) v2.toNatClampNeg)).bind fun u225 => if u225 = 0 then (f_Fm_readDirective_235 o_text_row_n (o_directivesq + (1 : Int32)) (o_atq + (1 : Int32)) o_text_length o_text_row_c o_width_cq o_index_cq o_precision_cq (upd o_conversion_cq v2.toNatClampNeg u147) o_flags_cq o_place_cq (upd o_after_cq v2.toNatClampNeg (o_atq + (1 : Int32)))) else (some ((1 : Int32), o_directivesq + (1 : Int32), o_atq + (1 : Int32), o_width_cq, o_index_cq, o_precision_cq, upd o_conversion_cq v2.toNatClampNeg u147, o_flags_cq, o_place_cq, upd o_after_cq v2.toNatClampNeg (o_atq + (1 : Int32)))) else none) else none) else none) else none else none else none) = some r := hf
    refine lv_aload_n S.1 S.2.1 d_Fm_readDirective_134 rfl (lv_at hl 0 rfl) ?_
    refine gx_gf (v := .ref o_conversion) S E hP 0 rfl rfl i_Fm 6 rfl wd_272 ⟨rfl, rfl, rfl⟩ rfl d_Fm_readDirective_135 ?_
    refine lv_iload_n S.1 S.2.1 d_Fm_readDirective_138 rfl (lv_at hl 1 rfl) ?_
    refine lv_aload_n S.1 S.2.1 d_Fm_readDirective_139 rfl (lv_at hl 0 rfl) ?_
    refine gx_gf (v := .ref o_text) S E hP 0 rfl rfl i_Fm 0 rfl wd_260 ⟨rfl, rfl, rfl⟩ rfl d_Fm_readDirective_140 ?_
    refine lv_aload_n S.1 S.2.1 d_Fm_readDirective_143 rfl (lv_at hl 0 rfl) ?_
    refine gx_gf (v := .int o_atq) S E hP 0 rfl rfl i_Fm 10 rfl wd_280 ⟨rfl, rfl, rfl⟩ rfl d_Fm_readDirective_144 ?_
    obtain ⟨u147, hc147, hf⟩ := gx_bnd hf
    refine gx_Vi (ws2 := (ww_Fm_readDirective g o o_place o_index o_flags o_width o_precision o_text o_text_row o_conversion o_after (.ref o_text) (.ref o_place) (.ref o_after) (.ref o_flags) (.ref o_width) (.ref o_precision) (.ref o_conversion) (.ref o_index) o_directivesq o_present o_atq o_place_cq o_index_cq o_flags_cq o_width_cq o_precision_cq (.ref o_text_row) o_text_length o_text_over o_text_row_n o_text_row_c o_conversion_cq o_after_cq)) S E hS hP hD (c_By_at l z D g o_text o_text_row o_text_length o_text_over o_text_row_n o_text_row_c o_atq u147 hc147) cal_By_at wd_752 wd_753 wd_1080 rfl [6, 7] rfl rfl rfl (gx_rc E hP 6 rfl rfl) rfl hl.1 rfl d_Fm_readDirective_147 ⟨Nat.zero_le _, Nat.zero_le _⟩ rfl (fun H locs hS hP hD => ?_)
    obtain ⟨hin, hf⟩ := gx_chk hf
    refine gx_iast (ws2 := (ww_Fm_readDirective g o o_place o_index o_flags o_width o_precision o_text o_text_row o_conversion o_after (.ref o_text) (.ref o_place) (.ref o_after) (.ref o_flags) (.ref o_width) (.ref o_precision) (.ref o_conversion) (.ref o_index) o_directivesq o_present o_atq o_place_cq o_index_cq o_flags_cq o_width_cq o_precision_cq (.ref o_text_row) o_text_length o_text_over o_text_row_n o_text_row_c (upd o_conversion_cq v2.toNatClampNeg u147) o_after_cq)) S E hS hP hD 8 0 rfl rfl hin d_Fm_readDirective_150 rfl (fun H locs hS hP hD => ?_)
    refine lv_aload_n S.1 S.2.1 d_Fm_readDirective_151 rfl (lv_at hl 0 rfl) ?_
    refine lv_dup S.1 S.2.1 d_Fm_readDirective_152 rfl ?_
    refine gx_gf (v := .int o_atq) S E hP 0 rfl rfl i_Fm 10 rfl wd_280 ⟨rfl, rfl, rfl⟩ rfl d_Fm_readDirective_153 ?_
    refine lv_iconst (v := 1) S.1 S.2.1 d_Fm_readDirective_156 (by decide) ?_
    refine lv_iadd S.1 S.2.1 d_Fm_readDirective_157 ?_
    refine gx_pf (v := .int (o_atq + (1 : Int32))) (ws2 := (ww_Fm_readDirective g o o_place o_index o_flags o_width o_precision o_text o_text_row o_conversion o_after (.ref o_text) (.ref o_place) (.ref o_after) (.ref o_flags) (.ref o_width) (.ref o_precision) (.ref o_conversion) (.ref o_index) o_directivesq o_present (o_atq + (1 : Int32)) o_place_cq o_index_cq o_flags_cq o_width_cq o_precision_cq (.ref o_text_row) o_text_length o_text_over o_text_row_n o_text_row_c (upd o_conversion_cq v2.toNatClampNeg u147) o_after_cq)) S E hS hP hD 0 rfl rfl i_Fm k_Fm n_Fm 10 rfl wd_280 ⟨rfl, rfl, rfl, rfl⟩ rfl rfl rfl d_Fm_readDirective_158 rfl (fun H locs hS hP hD => ?_)
    refine lv_aload_n S.1 S.2.1 d_Fm_readDirective_161 rfl (lv_at hl 0 rfl) ?_
    refine gx_gf (v := .ref o_after) S E hP 0 rfl rfl i_Fm 2 rfl wd_264 ⟨rfl, rfl, rfl⟩ rfl d_Fm_readDirective_162 ?_
    refine lv_iload_n S.1 S.2.1 d_Fm_readDirective_165 rfl (lv_at hl 1 rfl) ?_
    refine lv_aload_n S.1 S.2.1 d_Fm_readDirective_166 rfl (lv_at hl 0 rfl) ?_
    refine gx_gf (v := .int (o_atq + (1 : Int32))) S E hP 0 rfl rfl i_Fm 10 rfl wd_280 ⟨rfl, rfl, rfl⟩ rfl d_Fm_readDirective_167 ?_
    obtain ⟨hin, hf⟩ := gx_chk hf
    refine gx_iast (ws2 := (ww_Fm_readDirective g o o_place o_index o_flags o_width o_precision o_text o_text_row o_conversion o_after (.ref o_text) (.ref o_place) (.ref o_after) (.ref o_flags) (.ref o_width) (.ref o_precision) (.ref o_conversion) (.ref o_index) o_directivesq o_present (o_atq + (1 : Int32)) o_place_cq o_index_cq o_flags_cq o_width_cq o_precision_cq (.ref o_text_row) o_text_length o_text_over o_text_row_n o_text_row_c (upd o_conversion_cq v2.toNatClampNeg u147) (upd o_after_cq v2.toNatClampNeg (o_atq + (1 : Int32))))) S E hS hP hD 9 0 rfl rfl hin d_Fm_readDirective_170 rfl (fun H locs hS hP hD => ?_)
    refine lv_aload_n S.1 S.2.1 d_Fm_readDirective_171 rfl (lv_at hl 0 rfl) ?_
    refine lv_dup S.1 S.2.1 d_Fm_readDirective_172 rfl ?_
    refine gx_gf (v := .int o_directivesq) S E hP 0 rfl rfl i_Fm 8 rfl wd_276 ⟨rfl, rfl, rfl⟩ rfl d_Fm_readDirective_173 ?_
    refine lv_iconst (v := 1) S.1 S.2.1 d_Fm_readDirective_176 (by decide) ?_
    refine lv_iadd S.1 S.2.1 d_Fm_readDirective_177 ?_
    refine gx_pf (v := .int (o_directivesq + (1 : Int32))) (ws2 := (ww_Fm_readDirective g o o_place o_index o_flags o_width o_precision o_text o_text_row o_conversion o_after (.ref o_text) (.ref o_place) (.ref o_after) (.ref o_flags) (.ref o_width) (.ref o_precision) (.ref o_conversion) (.ref o_index) (o_directivesq + (1 : Int32)) o_present (o_atq + (1 : Int32)) o_place_cq o_index_cq o_flags_cq o_width_cq o_precision_cq (.ref o_text_row) o_text_length o_text_over o_text_row_n o_text_row_c (upd o_conversion_cq v2.toNatClampNeg u147) (upd o_after_cq v2.toNatClampNeg (o_atq + (1 : Int32))))) S E hS hP hD 0 rfl rfl i_Fm k_Fm n_Fm 8 rfl wd_276 ⟨rfl, rfl, rfl, rfl⟩ rfl rfl rfl d_Fm_readDirective_178 rfl (fun H locs hS hP hD => ?_)
    refine lv_aload_n S.1 S.2.1 d_Fm_readDirective_181 rfl (lv_at hl 0 rfl) ?_
    refine gx_gf (v := .ref o_index) S E hP 0 rfl rfl i_Fm 7 rfl wd_274 ⟨rfl, rfl, rfl⟩ rfl d_Fm_readDirective_182 ?_
    refine lv_iload_n S.1 S.2.1 d_Fm_readDirective_185 rfl (lv_at hl 1 rfl) ?_
    obtain ⟨hin, hf⟩ := gx_chk hf
    refine va_iald S.1 S.2.1 E.1.1 hP 2 0 rfl rfl (gx_okv hin) d_Fm_readDirective_186 ?_
    refine lv_sipush (v := 9999) S.1 S.2.1 d_Fm_readDirective_187 (by decide) ?_
    refine lv_icmp_gt (tgt := 235) S.1 S.2.1 d_Fm_readDirective_190 (by decide) (fun h => ?_) (fun h => ?_)
    ·
      have hf := gx_ifp h hf
      exact c_235 (o_directivesq + (1 : Int32)) (o_atq + (1 : Int32)) o_width_cq o_index_cq o_precision_cq (upd o_conversion_cq v2.toNatClampNeg u147) o_flags_cq o_place_cq (upd o_after_cq v2.toNatClampNeg (o_atq + (1 : Int32))) ls _ _ (lv_sub hl [] rfl) hS hP hD hf
    ·
      have hf := gx_ifn h hf
      refine lv_aload_n S.1 S.2.1 d_Fm_readDirective_193 rfl (lv_at hl 0 rfl) ?_
      refine gx_gf (v := .ref o_width) S E hP 0 rfl rfl i_Fm 4 rfl wd_268 ⟨rfl, rfl, rfl⟩ rfl d_Fm_readDirective_194 ?_
      refine lv_iload_n S.1 S.2.1 d_Fm_readDirective_197 rfl (lv_at hl 1 rfl) ?_
      obtain ⟨hin, hf⟩ := gx_chk hf
      refine va_iald S.1 S.2.1 E.1.1 hP 4 0 rfl rfl (gx_okv hin) d_Fm_readDirective_198 ?_
      refine lv_sipush (v := 9999) S.1 S.2.1 d_Fm_readDirective_199 (by decide) ?_
      refine lv_icmp_gt (tgt := 235) S.1 S.2.1 d_Fm_readDirective_202 (by decide) (fun h => ?_) (fun h => ?_)
      ·
        have hf := gx_ifp h hf
        exact c_235 (o_directivesq + (1 : Int32)) (o_atq + (1 : Int32)) o_width_cq o_index_cq o_precision_cq (upd o_conversion_cq v2.toNatClampNeg u147) o_flags_cq o_place_cq (upd o_after_cq v2.toNatClampNeg (o_atq + (1 : Int32))) ls _ _ (lv_sub hl [] rfl) hS hP hD hf
      ·
        have hf := gx_ifn h hf
        refine lv_aload_n S.1 S.2.1 d_Fm_readDirective_205 rfl (lv_at hl 0 rfl) ?_
        refine gx_gf (v := .ref o_precision) S E hP 0 rfl rfl i_Fm 5 rfl wd_270 ⟨rfl, rfl, rfl⟩ rfl d_Fm_readDirective_206 ?_
        refine lv_iload_n S.1 S.2.1 d_Fm_readDirective_209 rfl (lv_at hl 1 rfl) ?_
        obtain ⟨hin, hf⟩ := gx_chk hf
        refine va_iald S.1 S.2.1 E.1.1 hP 5 0 rfl rfl (gx_okv hin) d_Fm_readDirective_210 ?_
        refine lv_sipush (v := 9999) S.1 S.2.1 d_Fm_readDirective_211 (by decide) ?_
        refine lv_icmp_gt (tgt := 235) S.1 S.2.1 d_Fm_readDirective_214 (by decide) (fun h => ?_) (fun h => ?_)
        ·
          have hf := gx_ifp h hf
          exact c_235 (o_directivesq + (1 : Int32)) (o_atq + (1 : Int32)) o_width_cq o_index_cq o_precision_cq (upd o_conversion_cq v2.toNatClampNeg u147) o_flags_cq o_place_cq (upd o_after_cq v2.toNatClampNeg (o_atq + (1 : Int32))) ls _ _ (lv_sub hl [] rfl) hS hP hD hf
        ·
          have hf := gx_ifn h hf
          refine va_ldcS S.1 S.2.1 S.2.2.2.1 (sr_31 E) d_Fm_readDirective_217 ?_
          refine lv_aload_n S.1 S.2.1 d_Fm_readDirective_219 rfl (lv_at hl 0 rfl) ?_
          refine gx_gf (v := .ref o_conversion) S E hP 0 rfl rfl i_Fm 6 rfl wd_272 ⟨rfl, rfl, rfl⟩ rfl d_Fm_readDirective_220 ?_
          refine lv_iload_n S.1 S.2.1 d_Fm_readDirective_223 rfl (lv_at hl 1 rfl) ?_
          obtain ⟨hin, hf⟩ := gx_chk hf
          refine va_iald S.1 S.2.1 E.1.1 hP 8 0 rfl rfl (gx_okv hin) d_Fm_readDirective_224 ?_
          obtain ⟨u225, hc225, hf⟩ := gx_bnd hf
          refine gx_Si (ws2 := (ww_Fm_readDirective g o o_place o_index o_flags o_width o_precision o_text o_text_row o_conversion o_after (.ref o_text) (.ref o_place) (.ref o_after) (.ref o_flags) (.ref o_width) (.ref o_precision) (.ref o_conversion) (.ref o_index) (o_directivesq + (1 : Int32)) o_present (o_atq + (1 : Int32)) o_place_cq o_index_cq o_flags_cq o_width_cq o_precision_cq (.ref o_text_row) o_text_length o_text_over o_text_row_n o_text_row_c (upd o_conversion_cq v2.toNatClampNeg u147) (upd o_after_cq v2.toNatClampNeg (o_atq + (1 : Int32))))) S E hS hP hD (c_Fm_has l z D g 31 ((upd o_conversion_cq v2.toNatClampNeg u147) v2.toNatClampNeg) u225 hc225) cal_Fm_has wd_1101 wd_1100 rfl [] rfl rfl rfl rfl hl.1 rfl d_Fm_readDirective_225 ⟨Nat.zero_le _, Nat.zero_le _⟩ rfl (fun H locs hS hP hD => ?_)
          refine lv_if_eq (tgt := 235) S.1 S.2.1 d_Fm_readDirective_228 (by decide) (fun h => ?_) (fun h => ?_)
          ·
            have hf := gx_ifp h hf
            exact c_235 (o_directivesq + (1 : Int32)) (o_atq + (1 : Int32)) o_width_cq o_index_cq o_precision_cq (upd o_conversion_cq v2.toNatClampNeg u147) o_flags_cq o_place_cq (upd o_after_cq v2.toNatClampNeg (o_atq + (1 : Int32))) ls _ _ (lv_sub hl [] rfl) hS hP hD hf
          ·
            have hf := gx_ifn h hf
            refine lv_iconst (v := 1) S.1 S.2.1 d_Fm_readDirective_231 (by decide) ?_
            refine lv_goto (tgt := 236) S.1 S.2.1 d_Fm_readDirective_232 (by decide) ?_
            obtain rfl := Option.some.inj hf
            exact gx_rz S hr gx_n1 hlk hS hP hD d_Fm_readDirective_236
  have c_79 : ∀ (v2 : Int32) (o_directivesq : Int32) (o_atq : Int32) (o_width_cq : Nat → Int32) (o_index_cq : Nat → Int32) (o_precision_cq : Nat → Int32) (o_conversion_cq : Nat → Int32) (o_flags_cq : Nat → Int32) (o_place_cq : Nat → Int32) (o_after_cq : Nat → Int32) (ls : Array Slot) (H : Heap) (locs : List Loc), lv_has ls 3 [(0, .ref o), (2, .int v2)] → va_S (va_A (ww_Fm_readDirective g o o_place o_index o_flags o_width o_precision o_text o_text_row o_conversion o_after (.ref o_text) (.ref o_place) (.ref o_after) (.ref o_flags) (.ref o_width) (.ref o_precision) (.ref o_conversion) (.ref o_index) o_directives o_present o_at o_place_c o_index_c o_flags_c o_width_c o_precision_c (.ref o_text_row) o_text_length o_text_over o_text_row_n o_text_row_c o_conversion_c o_after_c) s.heap.size) s.heap H locs → va_P D vwC (ww_Fm_readDirective g o o_place o_index o_flags o_width o_precision o_text o_text_row o_conversion o_after (.ref o_text) (.ref o_place) (.ref o_after) (.ref o_flags) (.ref o_width) (.ref o_precision) (.ref o_conversion) (.ref o_index) o_directivesq o_present o_atq o_place_cq o_index_cq o_flags_cq o_width_cq o_precision_cq (.ref o_text_row) o_text_length o_text_over o_text_row_n o_text_row_c o_conversion_cq o_after_cq) H → va_D (va_A (ww_Fm_readDirective g o o_place o_index o_flags o_width o_precision o_text o_text_row o_conversion o_after (.ref o_text) (.ref o_place) (.ref o_after) (.ref o_flags) (.ref o_width) (.ref o_precision) (.ref o_conversion) (.ref o_index) o_directives o_present o_at o_place_c o_index_c o_flags_c o_width_c o_precision_c (.ref o_text_row) o_text_length o_text_over o_text_row_n o_text_row_c o_conversion_c o_after_c) s.heap.size) (ww_Fm_readDirective g o o_place o_index o_flags o_width o_precision o_text o_text_row o_conversion o_after (.ref o_text) (.ref o_place) (.ref o_after) (.ref o_flags) (.ref o_width) (.ref o_precision) (.ref o_conversion) (.ref o_index) o_directivesq o_present o_atq o_place_cq o_index_cq o_flags_cq o_width_cq o_precision_cq (.ref o_text_row) o_text_length o_text_over o_text_row_n o_text_row_c o_conversion_cq o_after_cq) → (f_Fm_readDirective_79 v2 o_text_row_n o_directivesq o_atq o_text_length o_text_row_c o_width_cq o_index_cq o_precision_cq o_conversion_cq o_flags_cq o_place_cq o_after_cq) = some r → W p l e ({ frames := 6, cells := 0, slots := 0, locals := 134 } : Room) s m ([.ref o, .int a1] : List Value).toArray below meth c H locs 0 0 (MQ below (gx_Qi D (ww_Fm_readDirective g o o_place o_index o_flags o_width o_precision o_text o_text_row o_conversion o_after (.ref o_text) (.ref o_place) (.ref o_after) (.ref o_flags) (.ref o_width) (.ref o_precision) (.ref o_conversion) (.ref o_index) o_directives o_present o_at o_place_c o_index_c o_flags_c o_width_c o_precision_c (.ref o_text_row) o_text_length o_text_over o_text_row_n o_text_row_c o_conversion_c o_after_c) (ww_Fm_readDirective g o o_place o_index o_flags o_width o_precision o_text o_text_row o_conversion o_after (.ref o_text) (.ref o_place) (.ref o_after) (.ref o_flags) (.ref o_width) (.ref o_precision) (.ref o_conversion) (.ref o_index) r.2.1 o_present r.2.2.1 r.2.2.2.2.2.2.2.2.1 r.2.2.2.2.1 r.2.2.2.2.2.2.2.1 r.2.2.2.1 r.2.2.2.2.2.1 (.ref o_text_row) o_text_length o_text_over o_text_row_n o_text_row_c r.2.2.2.2.2.2.1 r.2.2.2.2.2.2.2.2.2) r.1 s.heap.size) ([.ref o, .int a1] : List Value).toArray s 0 0 (va_A (ww_Fm_readDirective g o o_place o_index o_flags o_width o_precision o_text o_text_row o_conversion o_after (.ref o_text) (.ref o_place) (.ref o_after) (.ref o_flags) (.ref o_width) (.ref o_precision) (.ref o_conversion) (.ref o_index) o_directives o_present o_at o_place_c o_index_c o_flags_c o_width_c o_precision_c (.ref o_text_row) o_text_length o_text_over o_text_row_n o_text_row_c o_conversion_c o_after_c) s.heap.size)) (F0 m 79 ls []) := by
    intro v2 o_directivesq o_atq o_width_cq o_index_cq o_precision_cq o_conversion_cq o_flags_cq o_place_cq o_after_cq ls H locs hl hS hP hD hf
    have hf : ((f_By_at o_atq o_text_row_n o_text_length o_text_row_c).bind fun u87 => if u87 = (46 : Int32) then ((f_By_at (o_atq + (1 : Int32)) o_text_row_n o_text_length o_text_row_c).bind fun u113 => (f_Nt_isDigit u113).bind fun u116 => if u116 = 0 then (some ((0 : Int32), o_directivesq, o_atq + (1 : Int32), o_width_cq, o_index_cq, o_precision_cq, o_conversion_cq, o_flags_cq, o_place_cq, o_after_cq)) else ((f_Fm_readNumber o_text_row_n (o_atq + (1 : Int32)) o_text_length o_text_row_c).bind fun u130 => if gx_ok v2 500 = true then f_Fm_readDirective_134 v2 o_text_row_n o_directivesq u130.2 o_text_length o_text_row_c o_width_cq o_index_cq (upd o_precision_cq v2.toNatClampNeg u130.1) o_conversion_cq o_flags_cq o_place_cq o_after_cq else none)) else (f_Fm_readDirective_134 v2 o_text_row_n o_directivesq o_atq o_text_length o_text_row_c o_width_cq o_index_cq o_precision_cq o_conversion_cq o_flags_cq o_place_cq o_after_cq)) = some r := hf
    refine lv_aload_n S.1 S.2.1 d_Fm_readDirective_79 rfl (lv_at hl 0 rfl) ?_
    refine gx_gf (v := .ref o_text) S E hP 0 rfl rfl i_Fm 0 rfl wd_260 ⟨rfl, rfl, rfl⟩ rfl d_Fm_readDirective_80 ?_
    refine lv_aload_n S.1 S.2.1 d_Fm_readDirective_83 rfl (lv_at hl 0 rfl) ?_
    refine gx_gf (v := .int o_atq) S E hP 0 rfl rfl i_Fm 10 rfl wd_280 ⟨rfl, rfl, rfl⟩ rfl d_Fm_readDirective_84 ?_
    obtain ⟨u87, hc87, hf⟩ := gx_bnd hf
    refine gx_Vi (ws2 := (ww_Fm_readDirective g o o_place o_index o_flags o_width o_precision o_text o_text_row o_conversion o_after (.ref o_text) (.ref o_place) (.ref o_after) (.ref o_flags) (.ref o_width) (.ref o_precision) (.ref o_conversion) (.ref o_index) o_directivesq o_present o_atq o_place_cq o_index_cq o_flags_cq o_width_cq o_precision_cq (.ref o_text_row) o_text_length o_text_over o_text_row_n o_text_row_c o_conversion_cq o_after_cq)) S E hS hP hD (c_By_at l z D g o_text o_text_row o_text_length o_text_over o_text_row_n o_text_row_c o_atq u87 hc87) cal_By_at wd_752 wd_753 wd_1080 rfl [6, 7] rfl rfl rfl (gx_rc E hP 6 rfl rfl) rfl hl.1 rfl d_Fm_readDirective_87 ⟨Nat.zero_le _, Nat.zero_le _⟩ rfl (fun H locs hS hP hD => ?_)
    refine lv_bipush (v := 46) S.1 S.2.1 d_Fm_readDirective_90 (by decide) ?_
    refine lv_icmp_ne (tgt := 134) S.1 S.2.1 d_Fm_readDirective_92 (by decide) (fun h => ?_) (fun h => ?_)
    ·
      have hf := gx_ifn h hf
      exact c_134 v2 o_directivesq o_atq o_width_cq o_index_cq o_precision_cq o_conversion_cq o_flags_cq o_place_cq o_after_cq ls _ _ (lv_sub hl [0, 1] rfl) hS hP hD hf
    ·
      have hf := gx_ifp h hf
      refine lv_aload_n S.1 S.2.1 d_Fm_readDirective_95 rfl (lv_at hl 0 rfl) ?_
      refine lv_dup S.1 S.2.1 d_Fm_readDirective_96 rfl ?_
      refine gx_gf (v := .int o_atq) S E hP 0 rfl rfl i_Fm 10 rfl wd_280 ⟨rfl, rfl, rfl⟩ rfl d_Fm_readDirective_97 ?_
      refine lv_iconst (v := 1) S.1 S.2.1 d_Fm_readDirective_100 (by decide) ?_
      refine lv_iadd S.1 S.2.1 d_Fm_readDirective_101 ?_
      refine gx_pf (v := .int (o_atq + (1 : Int32))) (ws2 := (ww_Fm_readDirective g o o_place o_index o_flags o_width o_precision o_text o_text_row o_conversion o_after (.ref o_text) (.ref o_place) (.ref o_after) (.ref o_flags) (.ref o_width) (.ref o_precision) (.ref o_conversion) (.ref o_index) o_directivesq o_present (o_atq + (1 : Int32)) o_place_cq o_index_cq o_flags_cq o_width_cq o_precision_cq (.ref o_text_row) o_text_length o_text_over o_text_row_n o_text_row_c o_conversion_cq o_after_cq)) S E hS hP hD 0 rfl rfl i_Fm k_Fm n_Fm 10 rfl wd_280 ⟨rfl, rfl, rfl, rfl⟩ rfl rfl rfl d_Fm_readDirective_102 rfl (fun H locs hS hP hD => ?_)
      refine lv_aload_n S.1 S.2.1 d_Fm_readDirective_105 rfl (lv_at hl 0 rfl) ?_
      refine gx_gf (v := .ref o_text) S E hP 0 rfl rfl i_Fm 0 rfl wd_260 ⟨rfl, rfl, rfl⟩ rfl d_Fm_readDirective_106 ?_
      refine lv_aload_n S.1 S.2.1 d_Fm_readDirective_109 rfl (lv_at hl 0 rfl) ?_
      refine gx_gf (v := .int (o_atq + (1 : Int32))) S E hP 0 rfl rfl i_Fm 10 rfl wd_280 ⟨rfl, rfl, rfl⟩ rfl d_Fm_readDirective_110 ?_
      obtain ⟨u113, hc113, hf⟩ := gx_bnd hf
      refine gx_Vi (ws2 := (ww_Fm_readDirective g o o_place o_index o_flags o_width o_precision o_text o_text_row o_conversion o_after (.ref o_text) (.ref o_place) (.ref o_after) (.ref o_flags) (.ref o_width) (.ref o_precision) (.ref o_conversion) (.ref o_index) o_directivesq o_present (o_atq + (1 : Int32)) o_place_cq o_index_cq o_flags_cq o_width_cq o_precision_cq (.ref o_text_row) o_text_length o_text_over o_text_row_n o_text_row_c o_conversion_cq o_after_cq)) S E hS hP hD (c_By_at l z D g o_text o_text_row o_text_length o_text_over o_text_row_n o_text_row_c (o_atq + (1 : Int32)) u113 hc113) cal_By_at wd_752 wd_753 wd_1080 rfl [6, 7] rfl rfl rfl (gx_rc E hP 6 rfl rfl) rfl hl.1 rfl d_Fm_readDirective_113 ⟨Nat.zero_le _, Nat.zero_le _⟩ rfl (fun H locs hS hP hD => ?_)
      obtain ⟨u116, hc116, hf⟩ := gx_bnd hf
      refine gx_Ti (ws2 := (ww_Fm_readDirective g o o_place o_index o_flags o_width o_precision o_text o_text_row o_conversion o_after (.ref o_text) (.ref o_place) (.ref o_after) (.ref o_flags) (.ref o_width) (.ref o_precision) (.ref o_conversion) (.ref o_index) o_directivesq o_present (o_atq + (1 : Int32)) o_place_cq o_index_cq o_flags_cq o_width_cq o_precision_cq (.ref o_text_row) o_text_length o_text_over o_text_row_n o_text_row_c o_conversion_cq o_after_cq)) S E hS hP hD (c_Nt_isDigit l z D g u113 u116 hc116) cal_Nt_isDigit wd_790 nst_12 rfl [] rfl rfl rfl rfl hl.1 rfl d_Fm_readDirective_116 ⟨Nat.zero_le _, Nat.zero_le _⟩ rfl (fun H locs hS hP hD => ?_)
      refine lv_if_ne (tgt := 124) S.1 S.2.1 d_Fm_readDirective_119 (by decide) (fun h => ?_) (fun h => ?_)
      ·
        have hf := gx_ifn h hf
        refine lv_aload_n S.1 S.2.1 d_Fm_readDirective_124 rfl (lv_at hl 0 rfl) ?_
        refine gx_gf (v := .ref o_precision) S E hP 0 rfl rfl i_Fm 5 rfl wd_270 ⟨rfl, rfl, rfl⟩ rfl d_Fm_readDirective_125 ?_
        refine lv_iload_n S.1 S.2.1 d_Fm_readDirective_128 rfl (lv_at hl 1 rfl) ?_
        refine lv_aload_n S.1 S.2.1 d_Fm_readDirective_129 rfl (lv_at hl 0 rfl) ?_
        obtain ⟨u130, hc130, hf⟩ := gx_bnd hf
        refine gx_Vi (ws2 := (ww_Fm_readDirective g o o_place o_index o_flags o_width o_precision o_text o_text_row o_conversion o_after (.ref o_text) (.ref o_place) (.ref o_after) (.ref o_flags) (.ref o_width) (.ref o_precision) (.ref o_conversion) (.ref o_index) o_directivesq o_present u130.2 o_place_cq o_index_cq o_flags_cq o_width_cq o_precision_cq (.ref o_text_row) o_text_length o_text_over o_text_row_n o_text_row_c o_conversion_cq o_after_cq)) S E hS hP hD (c_Fm_readNumber l z D g o o_text o_text_row (.ref o_place) (.ref o_after) (.ref o_flags) (.ref o_width) (.ref o_precision) (.ref o_conversion) (.ref o_index) o_directivesq o_present (o_atq + (1 : Int32)) o_text_length o_text_over o_text_row_n o_text_row_c u130 hc130) cal_Fm_readNumber wd_1092 ws_42 wd_1090 rfl [0, 6, 7] rfl rfl rfl (gx_rc E hP 0 rfl rfl) rfl hl.1 rfl d_Fm_readDirective_130 ⟨Nat.zero_le _, Nat.zero_le _⟩ rfl (fun H locs hS hP hD => ?_)
        obtain ⟨hin, hf⟩ := gx_chk hf
        refine gx_iast (ws2 := (ww_Fm_readDirective g o o_place o_index o_flags o_width o_precision o_text o_text_row o_conversion o_after (.ref o_text) (.ref o_place) (.ref o_after) (.ref o_flags) (.ref o_width) (.ref o_precision) (.ref o_conversion) (.ref o_index) o_directivesq o_present u130.2 o_place_cq o_index_cq o_flags_cq o_width_cq (upd o_precision_cq v2.toNatClampNeg u130.1) (.ref o_text_row) o_text_length o_text_over o_text_row_n o_text_row_c o_conversion_cq o_after_cq)) S E hS hP hD 5 0 rfl rfl hin d_Fm_readDirective_133 rfl (fun H locs hS hP hD => ?_)
        exact c_134 v2 o_directivesq u130.2 o_width_cq o_index_cq (upd o_precision_cq v2.toNatClampNeg u130.1) o_conversion_cq o_flags_cq o_place_cq o_after_cq ls _ _ (lv_sub hl [0, 1] rfl) hS hP hD hf
      ·
        have hf := gx_ifp h hf
        refine lv_iconst (v := 0) S.1 S.2.1 d_Fm_readDirective_122 (by decide) ?_
        obtain rfl := Option.some.inj hf
        exact gx_rz S hr gx_n0 hlk hS hP hD d_Fm_readDirective_123
  have hf : (if o_directives < (500 : Int32) then (if gx_ok o_directives 500 = true then if gx_ok o_directives 500 = true then if gx_ok o_directives 500 = true then if gx_ok o_directives 500 = true then if gx_ok o_directives 500 = true then (f_Fm_readIndexOrWidth o_directives o_text_row_n (a1 + (1 : Int32)) o_text_length o_text_row_c (upd o_width_c o_directives.toNatClampNeg (-1 : Int32)) (upd o_index_c o_directives.toNatClampNeg (0 : Int32))).bind fun u61 => if gx_ok o_directives 500 = true then if (u61.2.1 o_directives.toNatClampNeg) = (-1 : Int32) then ((f_Fm_readFlagsAndWidth o_directives o_text_row_n u61.1 o_text_length o_text_row_c (upd o_flags_c o_directives.toNatClampNeg (0 : Int32)) u61.2.1).bind fun u76 => f_Fm_readDirective_79 o_directives o_text_row_n o_directives u76.1 o_text_length o_text_row_c u76.2.2 u61.2.2 (upd o_precision_c o_directives.toNatClampNeg (-1 : Int32)) o_conversion_c u76.2.1 (upd o_place_c o_directives.toNatClampNeg a1) o_after_c) else (f_Fm_readDirective_79 o_directives o_text_row_n o_directives u61.1 o_text_length o_text_row_c u61.2.1 u61.2.2 (upd o_precision_c o_directives.toNatClampNeg (-1 : Int32)) o_conversion_c (upd o_flags_c o_directives.toNatClampNeg (0 : Int32)) (upd o_place_c o_directives.toNatClampNeg a1) o_after_c) else none else none else none else none else none else none) else (some ((0 : Int32), o_directives, o_at, o_width_c, o_index_c, o_precision_c, o_conversion_c, o_flags_c, o_place_c, o_after_c))) = some r := hf
  refine lv_aload_n S.1 S.2.1 d_Fm_readDirective_0 rfl (lv_at hl 0 rfl) ?_
  refine gx_gf (v := .int o_directives) S E hP 0 rfl rfl i_Fm 8 rfl wd_276 ⟨rfl, rfl, rfl⟩ rfl d_Fm_readDirective_1 ?_
  refine lv_sipush (v := 500) S.1 S.2.1 d_Fm_readDirective_4 (by decide) ?_
  refine lv_icmp_lt (tgt := 12) S.1 S.2.1 d_Fm_readDirective_7 (by decide) (fun h => ?_) (fun h => ?_)
  ·
    have hf := gx_ifp h hf
    refine lv_aload_n S.1 S.2.1 d_Fm_readDirective_12 rfl (lv_at hl 0 rfl) ?_
    refine gx_gf (v := .int o_directives) S E hP 0 rfl rfl i_Fm 8 rfl wd_276 ⟨rfl, rfl, rfl⟩ rfl d_Fm_readDirective_13 ?_
    refine lv_istore_n (lv' := [(2, .int o_directives), (0, .ref o), (1, .int a1)]) S.1 S.2.1 d_Fm_readDirective_16 rfl hl (by decide) rfl (fun ls hl => ?_)
    refine lv_aload_n S.1 S.2.1 d_Fm_readDirective_17 rfl (lv_at hl 1 rfl) ?_
    refine lv_iload_n S.1 S.2.1 d_Fm_readDirective_18 rfl (lv_at hl 2 rfl) ?_
    refine lv_iconst (v := 1) S.1 S.2.1 d_Fm_readDirective_19 (by decide) ?_
    refine lv_iadd S.1 S.2.1 d_Fm_readDirective_20 ?_
    refine gx_pf (v := .int (a1 + (1 : Int32))) (ws2 := (ww_Fm_readDirective g o o_place o_index o_flags o_width o_precision o_text o_text_row o_conversion o_after (.ref o_text) (.ref o_place) (.ref o_after) (.ref o_flags) (.ref o_width) (.ref o_precision) (.ref o_conversion) (.ref o_index) o_directives o_present (a1 + (1 : Int32)) o_place_c o_index_c o_flags_c o_width_c o_precision_c (.ref o_text_row) o_text_length o_text_over o_text_row_n o_text_row_c o_conversion_c o_after_c)) S E hS hP hD 0 rfl rfl i_Fm k_Fm n_Fm 10 rfl wd_280 ⟨rfl, rfl, rfl, rfl⟩ rfl rfl rfl d_Fm_readDirective_21 rfl (fun H locs hS hP hD => ?_)
    refine lv_aload_n S.1 S.2.1 d_Fm_readDirective_24 rfl (lv_at hl 1 rfl) ?_
    refine gx_gf (v := .ref o_place) S E hP 0 rfl rfl i_Fm 1 rfl wd_262 ⟨rfl, rfl, rfl⟩ rfl d_Fm_readDirective_25 ?_
    refine lv_iload_n S.1 S.2.1 d_Fm_readDirective_28 rfl (lv_at hl 0 rfl) ?_
    refine lv_iload_n S.1 S.2.1 d_Fm_readDirective_29 rfl (lv_at hl 2 rfl) ?_
    obtain ⟨hin, hf⟩ := gx_chk hf
    refine gx_iast (ws2 := (ww_Fm_readDirective g o o_place o_index o_flags o_width o_precision o_text o_text_row o_conversion o_after (.ref o_text) (.ref o_place) (.ref o_after) (.ref o_flags) (.ref o_width) (.ref o_precision) (.ref o_conversion) (.ref o_index) o_directives o_present (a1 + (1 : Int32)) (upd o_place_c o_directives.toNatClampNeg a1) o_index_c o_flags_c o_width_c o_precision_c (.ref o_text_row) o_text_length o_text_over o_text_row_n o_text_row_c o_conversion_c o_after_c)) S E hS hP hD 1 0 rfl rfl hin d_Fm_readDirective_30 rfl (fun H locs hS hP hD => ?_)
    refine lv_aload_n S.1 S.2.1 d_Fm_readDirective_31 rfl (lv_at hl 1 rfl) ?_
    refine gx_gf (v := .ref o_index) S E hP 0 rfl rfl i_Fm 7 rfl wd_274 ⟨rfl, rfl, rfl⟩ rfl d_Fm_readDirective_32 ?_
    refine lv_iload_n S.1 S.2.1 d_Fm_readDirective_35 rfl (lv_at hl 0 rfl) ?_
    refine lv_iconst (v := 0) S.1 S.2.1 d_Fm_readDirective_36 (by decide) ?_
    obtain ⟨hin, hf⟩ := gx_chk hf
    refine gx_iast (ws2 := (ww_Fm_readDirective g o o_place o_index o_flags o_width o_precision o_text o_text_row o_conversion o_after (.ref o_text) (.ref o_place) (.ref o_after) (.ref o_flags) (.ref o_width) (.ref o_precision) (.ref o_conversion) (.ref o_index) o_directives o_present (a1 + (1 : Int32)) (upd o_place_c o_directives.toNatClampNeg a1) (upd o_index_c o_directives.toNatClampNeg (0 : Int32)) o_flags_c o_width_c o_precision_c (.ref o_text_row) o_text_length o_text_over o_text_row_n o_text_row_c o_conversion_c o_after_c)) S E hS hP hD 2 0 rfl rfl hin d_Fm_readDirective_37 rfl (fun H locs hS hP hD => ?_)
    refine lv_aload_n S.1 S.2.1 d_Fm_readDirective_38 rfl (lv_at hl 1 rfl) ?_
    refine gx_gf (v := .ref o_flags) S E hP 0 rfl rfl i_Fm 3 rfl wd_266 ⟨rfl, rfl, rfl⟩ rfl d_Fm_readDirective_39 ?_
    refine lv_iload_n S.1 S.2.1 d_Fm_readDirective_42 rfl (lv_at hl 0 rfl) ?_
    refine lv_iconst (v := 0) S.1 S.2.1 d_Fm_readDirective_43 (by decide) ?_
    obtain ⟨hin, hf⟩ := gx_chk hf
    refine gx_iast (ws2 := (ww_Fm_readDirective g o o_place o_index o_flags o_width o_precision o_text o_text_row o_conversion o_after (.ref o_text) (.ref o_place) (.ref o_after) (.ref o_flags) (.ref o_width) (.ref o_precision) (.ref o_conversion) (.ref o_index) o_directives o_present (a1 + (1 : Int32)) (upd o_place_c o_directives.toNatClampNeg a1) (upd o_index_c o_directives.toNatClampNeg (0 : Int32)) (upd o_flags_c o_directives.toNatClampNeg (0 : Int32)) o_width_c o_precision_c (.ref o_text_row) o_text_length o_text_over o_text_row_n o_text_row_c o_conversion_c o_after_c)) S E hS hP hD 3 0 rfl rfl hin d_Fm_readDirective_44 rfl (fun H locs hS hP hD => ?_)
    refine lv_aload_n S.1 S.2.1 d_Fm_readDirective_45 rfl (lv_at hl 1 rfl) ?_
    refine gx_gf (v := .ref o_width) S E hP 0 rfl rfl i_Fm 4 rfl wd_268 ⟨rfl, rfl, rfl⟩ rfl d_Fm_readDirective_46 ?_
    refine lv_iload_n S.1 S.2.1 d_Fm_readDirective_49 rfl (lv_at hl 0 rfl) ?_
    refine lv_iconst (v := (-1)) S.1 S.2.1 d_Fm_readDirective_50 (by decide) ?_
    obtain ⟨hin, hf⟩ := gx_chk hf
    refine gx_iast (ws2 := (ww_Fm_readDirective g o o_place o_index o_flags o_width o_precision o_text o_text_row o_conversion o_after (.ref o_text) (.ref o_place) (.ref o_after) (.ref o_flags) (.ref o_width) (.ref o_precision) (.ref o_conversion) (.ref o_index) o_directives o_present (a1 + (1 : Int32)) (upd o_place_c o_directives.toNatClampNeg a1) (upd o_index_c o_directives.toNatClampNeg (0 : Int32)) (upd o_flags_c o_directives.toNatClampNeg (0 : Int32)) (upd o_width_c o_directives.toNatClampNeg (-1 : Int32)) o_precision_c (.ref o_text_row) o_text_length o_text_over o_text_row_n o_text_row_c o_conversion_c o_after_c)) S E hS hP hD 4 0 rfl rfl hin d_Fm_readDirective_51 rfl (fun H locs hS hP hD => ?_)
    refine lv_aload_n S.1 S.2.1 d_Fm_readDirective_52 rfl (lv_at hl 1 rfl) ?_
    refine gx_gf (v := .ref o_precision) S E hP 0 rfl rfl i_Fm 5 rfl wd_270 ⟨rfl, rfl, rfl⟩ rfl d_Fm_readDirective_53 ?_
    refine lv_iload_n S.1 S.2.1 d_Fm_readDirective_56 rfl (lv_at hl 0 rfl) ?_
    refine lv_iconst (v := (-1)) S.1 S.2.1 d_Fm_readDirective_57 (by decide) ?_
    obtain ⟨hin, hf⟩ := gx_chk hf
    refine gx_iast (ws2 := (ww_Fm_readDirective g o o_place o_index o_flags o_width o_precision o_text o_text_row o_conversion o_after (.ref o_text) (.ref o_place) (.ref o_after) (.ref o_flags) (.ref o_width) (.ref o_precision) (.ref o_conversion) (.ref o_index) o_directives o_present (a1 + (1 : Int32)) (upd o_place_c o_directives.toNatClampNeg a1) (upd o_index_c o_directives.toNatClampNeg (0 : Int32)) (upd o_flags_c o_directives.toNatClampNeg (0 : Int32)) (upd o_width_c o_directives.toNatClampNeg (-1 : Int32)) (upd o_precision_c o_directives.toNatClampNeg (-1 : Int32)) (.ref o_text_row) o_text_length o_text_over o_text_row_n o_text_row_c o_conversion_c o_after_c)) S E hS hP hD 5 0 rfl rfl hin d_Fm_readDirective_58 rfl (fun H locs hS hP hD => ?_)
    refine lv_aload_n S.1 S.2.1 d_Fm_readDirective_59 rfl (lv_at hl 1 rfl) ?_
    refine lv_iload_n S.1 S.2.1 d_Fm_readDirective_60 rfl (lv_at hl 0 rfl) ?_
    obtain ⟨u61, hc61, hf⟩ := gx_bnd hf
    refine gx_Vv (ws2 := (ww_Fm_readDirective g o o_place o_index o_flags o_width o_precision o_text o_text_row o_conversion o_after (.ref o_text) (.ref o_place) (.ref o_after) (.ref o_flags) (.ref o_width) (.ref o_precision) (.ref o_conversion) (.ref o_index) o_directives o_present u61.1 (upd o_place_c o_directives.toNatClampNeg a1) u61.2.2 (upd o_flags_c o_directives.toNatClampNeg (0 : Int32)) u61.2.1 (upd o_precision_c o_directives.toNatClampNeg (-1 : Int32)) (.ref o_text_row) o_text_length o_text_over o_text_row_n o_text_row_c o_conversion_c o_after_c)) S E hS hP hD (c_Fm_readIndexOrWidth l z D g o o_text o_text_row o_width o_index (.ref o_place) (.ref o_after) (.ref o_flags) (.ref o_precision) (.ref o_conversion) o_directives o_present (a1 + (1 : Int32)) o_text_length o_text_over o_text_row_n o_text_row_c (upd o_width_c o_directives.toNatClampNeg (-1 : Int32)) (upd o_index_c o_directives.toNatClampNeg (0 : Int32)) o_directives u61 hc61) cal_Fm_readIndexOrWidth wd_1087 ws_41 wd_1085 rfl [0, 6, 7, 4, 2] rfl rfl rfl (gx_rc E hP 0 rfl rfl) rfl hl.1 rfl d_Fm_readDirective_61 ⟨Nat.zero_le _, Nat.zero_le _⟩ rfl (fun H locs hS hP hD => ?_)
    refine lv_aload_n S.1 S.2.1 d_Fm_readDirective_64 rfl (lv_at hl 1 rfl) ?_
    refine gx_gf (v := .ref o_width) S E hP 0 rfl rfl i_Fm 4 rfl wd_268 ⟨rfl, rfl, rfl⟩ rfl d_Fm_readDirective_65 ?_
    refine lv_iload_n S.1 S.2.1 d_Fm_readDirective_68 rfl (lv_at hl 0 rfl) ?_
    obtain ⟨hin, hf⟩ := gx_chk hf
    refine va_iald S.1 S.2.1 E.1.1 hP 4 0 rfl rfl (gx_okv hin) d_Fm_readDirective_69 ?_
    refine lv_iconst (v := (-1)) S.1 S.2.1 d_Fm_readDirective_70 (by decide) ?_
    refine lv_icmp_ne (tgt := 79) S.1 S.2.1 d_Fm_readDirective_71 (by decide) (fun h => ?_) (fun h => ?_)
    ·
      have hf := gx_ifn h hf
      exact c_79 o_directives o_directives u61.1 u61.2.1 u61.2.2 (upd o_precision_c o_directives.toNatClampNeg (-1 : Int32)) o_conversion_c (upd o_flags_c o_directives.toNatClampNeg (0 : Int32)) (upd o_place_c o_directives.toNatClampNeg a1) o_after_c ls _ _ (lv_sub hl [1, 0] rfl) hS hP hD hf
    ·
      have hf := gx_ifp h hf
      refine lv_aload_n S.1 S.2.1 d_Fm_readDirective_74 rfl (lv_at hl 1 rfl) ?_
      refine lv_iload_n S.1 S.2.1 d_Fm_readDirective_75 rfl (lv_at hl 0 rfl) ?_
      obtain ⟨u76, hc76, hf⟩ := gx_bnd hf
      refine gx_Vv (ws2 := (ww_Fm_readDirective g o o_place o_index o_flags o_width o_precision o_text o_text_row o_conversion o_after (.ref o_text) (.ref o_place) (.ref o_after) (.ref o_flags) (.ref o_width) (.ref o_precision) (.ref o_conversion) (.ref o_index) o_directives o_present u76.1 (upd o_place_c o_directives.toNatClampNeg a1) u61.2.2 u76.2.1 u76.2.2 (upd o_precision_c o_directives.toNatClampNeg (-1 : Int32)) (.ref o_text_row) o_text_length o_text_over o_text_row_n o_text_row_c o_conversion_c o_after_c)) S E hS hP hD (c_Fm_readFlagsAndWidth l z D g o o_text o_text_row o_width o_flags (.ref o_place) (.ref o_after) (.ref o_precision) (.ref o_conversion) (.ref o_index) o_directives o_present u61.1 o_text_length o_text_over o_text_row_n o_text_row_c u61.2.1 (upd o_flags_c o_directives.toNatClampNeg (0 : Int32)) o_directives u76 hc76) cal_Fm_readFlagsAndWidth wd_1097 ws_43 wd_1095 rfl [0, 6, 7, 4, 3] rfl rfl rfl (gx_rc E hP 0 rfl rfl) rfl hl.1 rfl d_Fm_readDirective_76 ⟨Nat.zero_le _, Nat.zero_le _⟩ rfl (fun H locs hS hP hD => ?_)
      exact c_79 o_directives o_directives u76.1 u76.2.2 u61.2.2 (upd o_precision_c o_directives.toNatClampNeg (-1 : Int32)) o_conversion_c u76.2.1 (upd o_place_c o_directives.toNatClampNeg a1) o_after_c ls _ _ (lv_sub hl [1, 0] rfl) hS hP hD hf
  ·
    have hf := gx_ifn h hf
    refine lv_iconst (v := 0) S.1 S.2.1 d_Fm_readDirective_10 (by decide) ?_
    obtain rfl := Option.some.inj hf
    exact gx_rz S hr gx_n0 hlk hS hP hD d_Fm_readDirective_11
theorem d_Fm_firstWrong_0 : decode b_Fm_firstWrong 0 = .ok (.aload_n 0, 1) := by decide +kernel
theorem d_Fm_firstWrong_1 : decode b_Fm_firstWrong 1 = .ok (.iconst 0, 1) := by decide +kernel
theorem d_Fm_firstWrong_2 : decode b_Fm_firstWrong 2 = .ok (.putfield 42, 3) := by decide +kernel
theorem d_Fm_firstWrong_5 : decode b_Fm_firstWrong 5 = .ok (.aload_n 0, 1) := by decide +kernel
theorem d_Fm_firstWrong_6 : decode b_Fm_firstWrong 6 = .ok (.iconst 0, 1) := by decide +kernel
theorem d_Fm_firstWrong_7 : decode b_Fm_firstWrong 7 = .ok (.putfield 50, 3) := by decide +kernel
theorem d_Fm_firstWrong_10 : decode b_Fm_firstWrong 10 = .ok (.iconst 0, 1) := by decide +kernel
theorem d_Fm_firstWrong_11 : decode b_Fm_firstWrong 11 = .ok (.istore_n 1, 1) := by decide +kernel
theorem d_Fm_firstWrong_12 : decode b_Fm_firstWrong 12 = .ok (.iload_n 1, 1) := by decide +kernel
theorem d_Fm_firstWrong_13 : decode b_Fm_firstWrong 13 = .ok (.aload_n 0, 1) := by decide +kernel
theorem d_Fm_firstWrong_14 : decode b_Fm_firstWrong 14 = .ok (.getfield 16, 3) := by decide +kernel
theorem d_Fm_firstWrong_17 : decode b_Fm_firstWrong 17 = .ok (.getfield 53, 3) := by decide +kernel
theorem d_Fm_firstWrong_20 : decode b_Fm_firstWrong 20 = .ok (.if_icmp .ge 40, 3) := by decide +kernel
theorem d_Fm_firstWrong_23 : decode b_Fm_firstWrong 23 = .ok (.iload_n 1, 1) := by decide +kernel
theorem d_Fm_firstWrong_24 : decode b_Fm_firstWrong 24 = .ok (.aload_n 0, 1) := by decide +kernel
theorem d_Fm_firstWrong_25 : decode b_Fm_firstWrong 25 = .ok (.getfield 50, 3) := by decide +kernel
theorem d_Fm_firstWrong_28 : decode b_Fm_firstWrong 28 = .ok (.if_icmp .lt 26, 3) := by decide +kernel
theorem d_Fm_firstWrong_31 : decode b_Fm_firstWrong 31 = .ok (.aload_n 0, 1) := by decide +kernel
theorem d_Fm_firstWrong_32 : decode b_Fm_firstWrong 32 = .ok (.getfield 16, 3) := by decide +kernel
theorem d_Fm_firstWrong_35 : decode b_Fm_firstWrong 35 = .ok (.iload_n 1, 1) := by decide +kernel
theorem d_Fm_firstWrong_36 : decode b_Fm_firstWrong 36 = .ok (.invokevirtual 56, 3) := by decide +kernel
theorem d_Fm_firstWrong_39 : decode b_Fm_firstWrong 39 = .ok (.bipush 37, 2) := by decide +kernel
theorem d_Fm_firstWrong_41 : decode b_Fm_firstWrong 41 = .ok (.if_icmp .ne 13, 3) := by decide +kernel
theorem d_Fm_firstWrong_44 : decode b_Fm_firstWrong 44 = .ok (.aload_n 0, 1) := by decide +kernel
theorem d_Fm_firstWrong_45 : decode b_Fm_firstWrong 45 = .ok (.iload_n 1, 1) := by decide +kernel
theorem d_Fm_firstWrong_46 : decode b_Fm_firstWrong 46 = .ok (.invokevirtual 59, 3) := by decide +kernel
theorem d_Fm_firstWrong_49 : decode b_Fm_firstWrong 49 = .ok (.ifCond .ne 5, 3) := by decide +kernel
theorem d_Fm_firstWrong_52 : decode b_Fm_firstWrong 52 = .ok (.iload_n 1, 1) := by decide +kernel
theorem d_Fm_firstWrong_53 : decode b_Fm_firstWrong 53 = .ok (.ireturn, 1) := by decide +kernel
theorem d_Fm_firstWrong_54 : decode b_Fm_firstWrong 54 = .ok (.iinc 1 1, 3) := by decide +kernel
theorem d_Fm_firstWrong_57 : decode b_Fm_firstWrong 57 = .ok (.goto (-45), 3) := by decide +kernel
theorem d_Fm_firstWrong_60 : decode b_Fm_firstWrong 60 = .ok (.iconst (-1), 1) := by decide +kernel
theorem d_Fm_firstWrong_61 : decode b_Fm_firstWrong 61 = .ok (.ireturn, 1) := by decide +kernel
theorem cal_Fm_firstWrong : gx_cal y_Fm_firstWrong b_Fm_firstWrong 2 (some .int) 0 := ⟨wd_1079, wd_11, by decide +kernel⟩
def ww_Fm_firstWrong (g : Nat → ClassId) (o : Nat) (o_text : Nat) (o_text_row : Nat) (o_place : Nat) (o_index : Nat) (o_flags : Nat) (o_width : Nat) (o_precision : Nat) (o_conversion : Nat) (o_after : Nat) (x_o_text : Value) (x_o_place : Value) (x_o_after : Value) (x_o_flags : Value) (x_o_width : Value) (x_o_precision : Value) (x_o_conversion : Value) (x_o_index : Value) (x_o_directives : Int32) (x_o_present : Int32) (x_o_at : Int32) (x_o_text_row : Value) (x_o_text_length : Int32) (x_o_text_over : Int32) (o_text_row_n : Nat) (y_o_text_row : Nat → Int32) (y_o_place : Nat → Int32) (y_o_index : Nat → Int32) (y_o_flags : Nat → Int32) (y_o_width : Nat → Int32) (y_o_precision : Nat → Int32) (y_o_conversion : Nat → Int32) (y_o_after : Nat → Int32) : va_W := [(o, .inr (5, [x_o_text, x_o_place, x_o_after, x_o_flags, x_o_width, x_o_precision, x_o_conversion, x_o_index, .int x_o_directives, .int x_o_present, .int x_o_at])), (o_text, .inr (3, [x_o_text_row, .int x_o_text_length, .int x_o_text_over])), (o_text_row, .inl (g 1, o_text_row_n, .inl y_o_text_row)), (o_place, .inl (g 0, 500, .inl y_o_place)), (o_index, .inl (g 0, 500, .inl y_o_index)), (o_flags, .inl (g 0, 500, .inl y_o_flags)), (o_width, .inl (g 0, 500, .inl y_o_width)), (o_precision, .inl (g 0, 500, .inl y_o_precision)), (o_conversion, .inl (g 0, 500, .inl y_o_conversion)), (o_after, .inl (g 0, 500, .inl y_o_after))]
def f_Fm_firstWrong_54 (k12 : Int32 → Nat → Int32 → Int32 → (Nat → Int32) → Int32 → (Nat → Int32) → (Nat → Int32) → (Nat → Int32) → (Nat → Int32) → (Nat → Int32) → (Nat → Int32) → (Nat → Int32) → Option (Int32 × Int32 × Int32 × (Nat → Int32) × (Nat → Int32) × (Nat → Int32) × (Nat → Int32) × (Nat → Int32) × (Nat → Int32) × (Nat → Int32))) (v1 : Int32) (o_text_row_n : Nat) (o_text_length : Int32) (o_atq : Int32) (o_text_row_c : Nat → Int32) (o_directivesq : Int32) (o_width_cq : Nat → Int32) (o_index_cq : Nat → Int32) (o_precision_cq : Nat → Int32) (o_conversion_cq : Nat → Int32) (o_flags_cq : Nat → Int32) (o_place_cq : Nat → Int32) (o_after_cq : Nat → Int32) : Option (Int32 × Int32 × Int32 × (Nat → Int32) × (Nat → Int32) × (Nat → Int32) × (Nat → Int32) × (Nat → Int32) × (Nat → Int32) × (Nat → Int32)) := k12 (v1 + 1) o_text_row_n o_text_length o_atq o_text_row_c o_directivesq o_width_cq o_index_cq o_precision_cq o_conversion_cq o_flags_cq o_place_cq o_after_cq
def f_Fm_firstWrong_12 : Nat → Int32 → Nat → Int32 → Int32 → (Nat → Int32) → Int32 → (Nat → Int32) → (Nat → Int32) → (Nat → Int32) → (Nat → Int32) → (Nat → Int32) → (Nat → Int32) → (Nat → Int32) → Option (Int32 × Int32 × Int32 × (Nat → Int32) × (Nat → Int32) × (Nat → Int32) × (Nat → Int32) × (Nat → Int32) × (Nat → Int32) × (Nat → Int32))
  | 0, _, _, _, _, _, _, _, _, _, _, _, _, _ => none
  | n + 1, v1, o_text_row_n, o_text_length, o_atq, o_text_row_c, o_directivesq, o_width_cq, o_index_cq, o_precision_cq, o_conversion_cq, o_flags_cq, o_place_cq, o_after_cq => if o_text_length ≤ v1 then (some ((-1 : Int32), o_atq, o_directivesq, o_width_cq, o_index_cq, o_precision_cq, o_conversion_cq, o_flags_cq, o_place_cq, o_after_cq)) else (if v1 < o_atq then (f_Fm_firstWrong_54 (fun v1 o_text_row_n o_text_length o_atq o_text_row_c o_directivesq o_width_cq o_index_cq o_precision_cq o_conversion_cq o_flags_cq o_place_cq o_after_cq => f_Fm_firstWrong_12 n v1 o_text_row_n o_text_length o_atq o_text_row_c o_directivesq o_width_cq o_index_cq o_precision_cq o_conversion_cq o_flags_cq o_place_cq o_after_cq) v1 o_text_row_n o_text_length o_atq o_text_row_c o_directivesq o_width_cq o_index_cq o_precision_cq o_conversion_cq o_flags_cq o_place_cq o_after_cq) else ((f_By_at v1 o_text_row_n o_text_length o_text_row_c).bind fun u36 => if u36 = (37 : Int32) then ((f_Fm_readDirective v1 o_text_row_n o_directivesq o_atq o_text_length o_text_row_c o_width_cq o_index_cq o_precision_cq o_conversion_cq o_flags_cq o_place_cq o_after_cq).bind fun u46 => if u46.1 = 0 then (some (v1, u46.2.2.1, u46.2.1, u46.2.2.2.1, u46.2.2.2.2.1, u46.2.2.2.2.2.1, u46.2.2.2.2.2.2.1, u46.2.2.2.2.2.2.2.1, u46.2.2.2.2.2.2.2.2.1, u46.2.2.2.2.2.2.2.2.2)) else (f_Fm_firstWrong_54 (fun v1 o_text_row_n o_text_length o_atq o_text_row_c o_directivesq o_width_cq o_index_cq o_precision_cq o_conversion_cq o_flags_cq o_place_cq o_after_cq => f_Fm_firstWrong_12 n v1 o_text_row_n o_text_length o_atq o_text_row_c o_directivesq o_width_cq o_index_cq o_precision_cq o_conversion_cq o_flags_cq o_place_cq o_after_cq) v1 o_text_row_n o_text_length u46.2.2.1 o_text_row_c u46.2.1 u46.2.2.2.1 u46.2.2.2.2.1 u46.2.2.2.2.2.1 u46.2.2.2.2.2.2.1 u46.2.2.2.2.2.2.2.1 u46.2.2.2.2.2.2.2.2.1 u46.2.2.2.2.2.2.2.2.2)) else (f_Fm_firstWrong_54 (fun v1 o_text_row_n o_text_length o_atq o_text_row_c o_directivesq o_width_cq o_index_cq o_precision_cq o_conversion_cq o_flags_cq o_place_cq o_after_cq => f_Fm_firstWrong_12 n v1 o_text_row_n o_text_length o_atq o_text_row_c o_directivesq o_width_cq o_index_cq o_precision_cq o_conversion_cq o_flags_cq o_place_cq o_after_cq) v1 o_text_row_n o_text_length o_atq o_text_row_c o_directivesq o_width_cq o_index_cq o_precision_cq o_conversion_cq o_flags_cq o_place_cq o_after_cq)))
def f_Fm_firstWrong (o_text_row_n : Nat) (o_text_length : Int32) (o_at : Int32) (o_text_row_c : Nat → Int32) (o_directives : Int32) (o_width_c : Nat → Int32) (o_index_c : Nat → Int32) (o_precision_c : Nat → Int32) (o_conversion_c : Nat → Int32) (o_flags_c : Nat → Int32) (o_place_c : Nat → Int32) (o_after_c : Nat → Int32) : Option (Int32 × Int32 × Int32 × (Nat → Int32) × (Nat → Int32) × (Nat → Int32) × (Nat → Int32) × (Nat → Int32) × (Nat → Int32) × (Nat → Int32)) := f_Fm_firstWrong_12 gx_fu (0 : Int32) o_text_row_n o_text_length (0 : Int32) o_text_row_c (0 : Int32) o_width_c o_index_c o_precision_c o_conversion_c o_flags_c o_place_c o_after_c
set_option maxHeartbeats 4000000 in
set_option maxRecDepth 100000 in
theorem c_Fm_firstWrong (l : Launch) (z : State) (D : va_G) (g : Nat → ClassId) (o : Nat) (o_text : Nat) (o_text_row : Nat) (o_place : Nat) (o_index : Nat) (o_flags : Nat) (o_width : Nat) (o_precision : Nat) (o_conversion : Nat) (o_after : Nat) (o_directives : Int32) (o_present : Int32) (o_at : Int32) (o_text_length : Int32) (o_text_over : Int32) (o_text_row_n : Nat) (o_text_row_c : Nat → Int32) (o_place_c : Nat → Int32) (o_index_c : Nat → Int32) (o_flags_c : Nat → Int32) (o_width_c : Nat → Int32) (o_precision_c : Nat → Int32) (o_conversion_c : Nat → Int32) (o_after_c : Nat → Int32) (r : Int32 × Int32 × Int32 × (Nat → Int32) × (Nat → Int32) × (Nat → Int32) × (Nat → Int32) × (Nat → Int32) × (Nat → Int32) × (Nat → Int32)) (hf : f_Fm_firstWrong o_text_row_n o_text_length o_at o_text_row_c o_directives o_width_c o_index_c o_precision_c o_conversion_c o_flags_c o_place_c o_after_c = some r) : gx_Mi l z D g y_Fm_firstWrong b_Fm_firstWrong 2 .int ({ frames := 7, cells := 0, slots := 0, locals := 156 } : Room) [.ref o] (ww_Fm_firstWrong g o o_text o_text_row o_place o_index o_flags o_width o_precision o_conversion o_after (.ref o_text) (.ref o_place) (.ref o_after) (.ref o_flags) (.ref o_width) (.ref o_precision) (.ref o_conversion) (.ref o_index) o_directives o_present o_at (.ref o_text_row) o_text_length o_text_over o_text_row_n o_text_row_c o_place_c o_index_c o_flags_c o_width_c o_precision_c o_conversion_c o_after_c) (ww_Fm_firstWrong g o o_text o_text_row o_place o_index o_flags o_width o_precision o_conversion o_after (.ref o_text) (.ref o_place) (.ref o_after) (.ref o_flags) (.ref o_width) (.ref o_precision) (.ref o_conversion) (.ref o_index) r.2.2.1 o_present r.2.1 (.ref o_text_row) o_text_length o_text_over o_text_row_n o_text_row_c r.2.2.2.2.2.2.2.2.1 r.2.2.2.2.1 r.2.2.2.2.2.2.2.1 r.2.2.2.1 r.2.2.2.2.2.1 r.2.2.2.2.2.2.1 r.2.2.2.2.2.2.2.2.2) r.1 := by
  refine gx_go (by decide +kernel) rfl ?_
  intro p e s m below meth c ls S hr hlk hnm E hP hD hl
  have hS : va_S (va_A (ww_Fm_firstWrong g o o_text o_text_row o_place o_index o_flags o_width o_precision o_conversion o_after (.ref o_text) (.ref o_place) (.ref o_after) (.ref o_flags) (.ref o_width) (.ref o_precision) (.ref o_conversion) (.ref o_index) o_directives o_present o_at (.ref o_text_row) o_text_length o_text_over o_text_row_n o_text_row_c o_place_c o_index_c o_flags_c o_width_c o_precision_c o_conversion_c o_after_c) s.heap.size) s.heap s.heap [] := va_S.rf
  have hl : lv_has ls 2 [(0, .ref o)] := hl
  have c_54 : ∀ (k12 : Int32 → Nat → Int32 → Int32 → (Nat → Int32) → Int32 → (Nat → Int32) → (Nat → Int32) → (Nat → Int32) → (Nat → Int32) → (Nat → Int32) → (Nat → Int32) → (Nat → Int32) → Option (Int32 × Int32 × Int32 × (Nat → Int32) × (Nat → Int32) × (Nat → Int32) × (Nat → Int32) × (Nat → Int32) × (Nat → Int32) × (Nat → Int32))) (hk12 : ∀ (v1 : Int32) (o_atq : Int32) (o_directivesq : Int32) (o_width_cq : Nat → Int32) (o_index_cq : Nat → Int32) (o_precision_cq : Nat → Int32) (o_conversion_cq : Nat → Int32) (o_flags_cq : Nat → Int32) (o_place_cq : Nat → Int32) (o_after_cq : Nat → Int32) (ls : Array Slot) (H : Heap) (locs : List Loc), lv_has ls 2 [(0, .ref o), (1, .int v1)] → va_S (va_A (ww_Fm_firstWrong g o o_text o_text_row o_place o_index o_flags o_width o_precision o_conversion o_after (.ref o_text) (.ref o_place) (.ref o_after) (.ref o_flags) (.ref o_width) (.ref o_precision) (.ref o_conversion) (.ref o_index) o_directives o_present o_at (.ref o_text_row) o_text_length o_text_over o_text_row_n o_text_row_c o_place_c o_index_c o_flags_c o_width_c o_precision_c o_conversion_c o_after_c) s.heap.size) s.heap H locs → va_P D vwC (ww_Fm_firstWrong g o o_text o_text_row o_place o_index o_flags o_width o_precision o_conversion o_after (.ref o_text) (.ref o_place) (.ref o_after) (.ref o_flags) (.ref o_width) (.ref o_precision) (.ref o_conversion) (.ref o_index) o_directivesq o_present o_atq (.ref o_text_row) o_text_length o_text_over o_text_row_n o_text_row_c o_place_cq o_index_cq o_flags_cq o_width_cq o_precision_cq o_conversion_cq o_after_cq) H → va_D (va_A (ww_Fm_firstWrong g o o_text o_text_row o_place o_index o_flags o_width o_precision o_conversion o_after (.ref o_text) (.ref o_place) (.ref o_after) (.ref o_flags) (.ref o_width) (.ref o_precision) (.ref o_conversion) (.ref o_index) o_directives o_present o_at (.ref o_text_row) o_text_length o_text_over o_text_row_n o_text_row_c o_place_c o_index_c o_flags_c o_width_c o_precision_c o_conversion_c o_after_c) s.heap.size) (ww_Fm_firstWrong g o o_text o_text_row o_place o_index o_flags o_width o_precision o_conversion o_after (.ref o_text) (.ref o_place) (.ref o_after) (.ref o_flags) (.ref o_width) (.ref o_precision) (.ref o_conversion) (.ref o_index) o_directivesq o_present o_atq (.ref o_text_row) o_text_length o_text_over o_text_row_n o_text_row_c o_place_cq o_index_cq o_flags_cq o_width_cq o_precision_cq o_conversion_cq o_after_cq) → (k12 v1 o_text_row_n o_text_length o_atq o_text_row_c o_directivesq o_width_cq o_index_cq o_precision_cq o_conversion_cq o_flags_cq o_place_cq o_after_cq) = some r → W p l e ({ frames := 7, cells := 0, slots := 0, locals := 156 } : Room) s m ([.ref o] : List Value).toArray below meth c H locs 0 0 (MQ below (gx_Qi D (ww_Fm_firstWrong g o o_text o_text_row o_place o_index o_flags o_width o_precision o_conversion o_after (.ref o_text) (.ref o_place) (.ref o_after) (.ref o_flags) (.ref o_width) (.ref o_precision) (.ref o_conversion) (.ref o_index) o_directives o_present o_at (.ref o_text_row) o_text_length o_text_over o_text_row_n o_text_row_c o_place_c o_index_c o_flags_c o_width_c o_precision_c o_conversion_c o_after_c) (ww_Fm_firstWrong g o o_text o_text_row o_place o_index o_flags o_width o_precision o_conversion o_after (.ref o_text) (.ref o_place) (.ref o_after) (.ref o_flags) (.ref o_width) (.ref o_precision) (.ref o_conversion) (.ref o_index) r.2.2.1 o_present r.2.1 (.ref o_text_row) o_text_length o_text_over o_text_row_n o_text_row_c r.2.2.2.2.2.2.2.2.1 r.2.2.2.2.1 r.2.2.2.2.2.2.2.1 r.2.2.2.1 r.2.2.2.2.2.1 r.2.2.2.2.2.2.1 r.2.2.2.2.2.2.2.2.2) r.1 s.heap.size) ([.ref o] : List Value).toArray s 0 0 (va_A (ww_Fm_firstWrong g o o_text o_text_row o_place o_index o_flags o_width o_precision o_conversion o_after (.ref o_text) (.ref o_place) (.ref o_after) (.ref o_flags) (.ref o_width) (.ref o_precision) (.ref o_conversion) (.ref o_index) o_directives o_present o_at (.ref o_text_row) o_text_length o_text_over o_text_row_n o_text_row_c o_place_c o_index_c o_flags_c o_width_c o_precision_c o_conversion_c o_after_c) s.heap.size)) (F0 m 12 ls [])), ∀ (v1 : Int32) (o_atq : Int32) (o_directivesq : Int32) (o_width_cq : Nat → Int32) (o_index_cq : Nat → Int32) (o_precision_cq : Nat → Int32) (o_conversion_cq : Nat → Int32) (o_flags_cq : Nat → Int32) (o_place_cq : Nat → Int32) (o_after_cq : Nat → Int32) (ls : Array Slot) (H : Heap) (locs : List Loc), lv_has ls 2 [(0, .ref o), (1, .int v1)] → va_S (va_A (ww_Fm_firstWrong g o o_text o_text_row o_place o_index o_flags o_width o_precision o_conversion o_after (.ref o_text) (.ref o_place) (.ref o_after) (.ref o_flags) (.ref o_width) (.ref o_precision) (.ref o_conversion) (.ref o_index) o_directives o_present o_at (.ref o_text_row) o_text_length o_text_over o_text_row_n o_text_row_c o_place_c o_index_c o_flags_c o_width_c o_precision_c o_conversion_c o_after_c) s.heap.size) s.heap H locs → va_P D vwC (ww_Fm_firstWrong g o o_text o_text_row o_place o_index o_flags o_width o_precision o_conversion o_after (.ref o_text) (.ref o_place) (.ref o_after) (.ref o_flags) (.ref o_width) (.ref o_precision) (.ref o_conversion) (.ref o_index) o_directivesq o_present o_atq (.ref o_text_row) o_text_length o_text_over o_text_row_n o_text_row_c o_place_cq o_index_cq o_flags_cq o_width_cq o_precision_cq o_conversion_cq o_after_cq) H → va_D (va_A (ww_Fm_firstWrong g o o_text o_text_row o_place o_index o_flags o_width o_precision o_conversion o_after (.ref o_text) (.ref o_place) (.ref o_after) (.ref o_flags) (.ref o_width) (.ref o_precision) (.ref o_conversion) (.ref o_index) o_directives o_present o_at (.ref o_text_row) o_text_length o_text_over o_text_row_n o_text_row_c o_place_c o_index_c o_flags_c o_width_c o_precision_c o_conversion_c o_after_c) s.heap.size) (ww_Fm_firstWrong g o o_text o_text_row o_place o_index o_flags o_width o_precision o_conversion o_after (.ref o_text) (.ref o_place) (.ref o_after) (.ref o_flags) (.ref o_width) (.ref o_precision) (.ref o_conversion) (.ref o_index) o_directivesq o_present o_atq (.ref o_text_row) o_text_length o_text_over o_text_row_n o_text_row_c o_place_cq o_index_cq o_flags_cq o_width_cq o_precision_cq o_conversion_cq o_after_cq) → (f_Fm_firstWrong_54 k12 v1 o_text_row_n o_text_length o_atq o_text_row_c o_directivesq o_width_cq o_index_cq o_precision_cq o_conversion_cq o_flags_cq o_place_cq o_after_cq) = some r → W p l e ({ frames := 7, cells := 0, slots := 0, locals := 156 } : Room) s m ([.ref o] : List Value).toArray below meth c H locs 0 0 (MQ below (gx_Qi D (ww_Fm_firstWrong g o o_text o_text_row o_place o_index o_flags o_width o_precision o_conversion o_after (.ref o_text) (.ref o_place) (.ref o_after) (.ref o_flags) (.ref o_width) (.ref o_precision) (.ref o_conversion) (.ref o_index) o_directives o_present o_at (.ref o_text_row) o_text_length o_text_over o_text_row_n o_text_row_c o_place_c o_index_c o_flags_c o_width_c o_precision_c o_conversion_c o_after_c) (ww_Fm_firstWrong g o o_text o_text_row o_place o_index o_flags o_width o_precision o_conversion o_after (.ref o_text) (.ref o_place) (.ref o_after) (.ref o_flags) (.ref o_width) (.ref o_precision) (.ref o_conversion) (.ref o_index) r.2.2.1 o_present r.2.1 (.ref o_text_row) o_text_length o_text_over o_text_row_n o_text_row_c r.2.2.2.2.2.2.2.2.1 r.2.2.2.2.1 r.2.2.2.2.2.2.2.1 r.2.2.2.1 r.2.2.2.2.2.1 r.2.2.2.2.2.2.1 r.2.2.2.2.2.2.2.2.2) r.1 s.heap.size) ([.ref o] : List Value).toArray s 0 0 (va_A (ww_Fm_firstWrong g o o_text o_text_row o_place o_index o_flags o_width o_precision o_conversion o_after (.ref o_text) (.ref o_place) (.ref o_after) (.ref o_flags) (.ref o_width) (.ref o_precision) (.ref o_conversion) (.ref o_index) o_directives o_present o_at (.ref o_text_row) o_text_length o_text_over o_text_row_n o_text_row_c o_place_c o_index_c o_flags_c o_width_c o_precision_c o_conversion_c o_after_c) s.heap.size)) (F0 m 54 ls []) := by
    intro k12 hk12
    intro v1 o_atq o_directivesq o_width_cq o_index_cq o_precision_cq o_conversion_cq o_flags_cq o_place_cq o_after_cq ls H locs hl hS hP hD hf
    have hf : (k12 (v1 + 1) o_text_row_n o_text_length o_atq o_text_row_c o_directivesq o_width_cq o_index_cq o_precision_cq o_conversion_cq o_flags_cq o_place_cq o_after_cq) = some r := hf
    refine lv_iinc (v := v1 + 1) (lv' := [(1, .int (v1 + 1)), (0, .ref o)]) S.1 S.2.1 d_Fm_firstWrong_54 hl (k := 1) rfl rfl (by decide) rfl (fun ls hl => ?_)
    refine lv_goto (tgt := 12) S.1 S.2.1 d_Fm_firstWrong_57 (by decide) ?_
    exact hk12 (v1 + 1) o_atq o_directivesq o_width_cq o_index_cq o_precision_cq o_conversion_cq o_flags_cq o_place_cq o_after_cq ls _ _ (lv_sub hl [1, 0] rfl) hS hP hD hf
  have c_12 : ∀ n : Nat, ∀ (v1 : Int32) (o_atq : Int32) (o_directivesq : Int32) (o_width_cq : Nat → Int32) (o_index_cq : Nat → Int32) (o_precision_cq : Nat → Int32) (o_conversion_cq : Nat → Int32) (o_flags_cq : Nat → Int32) (o_place_cq : Nat → Int32) (o_after_cq : Nat → Int32) (ls : Array Slot) (H : Heap) (locs : List Loc), lv_has ls 2 [(0, .ref o), (1, .int v1)] → va_S (va_A (ww_Fm_firstWrong g o o_text o_text_row o_place o_index o_flags o_width o_precision o_conversion o_after (.ref o_text) (.ref o_place) (.ref o_after) (.ref o_flags) (.ref o_width) (.ref o_precision) (.ref o_conversion) (.ref o_index) o_directives o_present o_at (.ref o_text_row) o_text_length o_text_over o_text_row_n o_text_row_c o_place_c o_index_c o_flags_c o_width_c o_precision_c o_conversion_c o_after_c) s.heap.size) s.heap H locs → va_P D vwC (ww_Fm_firstWrong g o o_text o_text_row o_place o_index o_flags o_width o_precision o_conversion o_after (.ref o_text) (.ref o_place) (.ref o_after) (.ref o_flags) (.ref o_width) (.ref o_precision) (.ref o_conversion) (.ref o_index) o_directivesq o_present o_atq (.ref o_text_row) o_text_length o_text_over o_text_row_n o_text_row_c o_place_cq o_index_cq o_flags_cq o_width_cq o_precision_cq o_conversion_cq o_after_cq) H → va_D (va_A (ww_Fm_firstWrong g o o_text o_text_row o_place o_index o_flags o_width o_precision o_conversion o_after (.ref o_text) (.ref o_place) (.ref o_after) (.ref o_flags) (.ref o_width) (.ref o_precision) (.ref o_conversion) (.ref o_index) o_directives o_present o_at (.ref o_text_row) o_text_length o_text_over o_text_row_n o_text_row_c o_place_c o_index_c o_flags_c o_width_c o_precision_c o_conversion_c o_after_c) s.heap.size) (ww_Fm_firstWrong g o o_text o_text_row o_place o_index o_flags o_width o_precision o_conversion o_after (.ref o_text) (.ref o_place) (.ref o_after) (.ref o_flags) (.ref o_width) (.ref o_precision) (.ref o_conversion) (.ref o_index) o_directivesq o_present o_atq (.ref o_text_row) o_text_length o_text_over o_text_row_n o_text_row_c o_place_cq o_index_cq o_flags_cq o_width_cq o_precision_cq o_conversion_cq o_after_cq) → (f_Fm_firstWrong_12 n v1 o_text_row_n o_text_length o_atq o_text_row_c o_directivesq o_width_cq o_index_cq o_precision_cq o_conversion_cq o_flags_cq o_place_cq o_after_cq) = some r → W p l e ({ frames := 7, cells := 0, slots := 0, locals := 156 } : Room) s m ([.ref o] : List Value).toArray below meth c H locs 0 0 (MQ below (gx_Qi D (ww_Fm_firstWrong g o o_text o_text_row o_place o_index o_flags o_width o_precision o_conversion o_after (.ref o_text) (.ref o_place) (.ref o_after) (.ref o_flags) (.ref o_width) (.ref o_precision) (.ref o_conversion) (.ref o_index) o_directives o_present o_at (.ref o_text_row) o_text_length o_text_over o_text_row_n o_text_row_c o_place_c o_index_c o_flags_c o_width_c o_precision_c o_conversion_c o_after_c) (ww_Fm_firstWrong g o o_text o_text_row o_place o_index o_flags o_width o_precision o_conversion o_after (.ref o_text) (.ref o_place) (.ref o_after) (.ref o_flags) (.ref o_width) (.ref o_precision) (.ref o_conversion) (.ref o_index) r.2.2.1 o_present r.2.1 (.ref o_text_row) o_text_length o_text_over o_text_row_n o_text_row_c r.2.2.2.2.2.2.2.2.1 r.2.2.2.2.1 r.2.2.2.2.2.2.2.1 r.2.2.2.1 r.2.2.2.2.2.1 r.2.2.2.2.2.2.1 r.2.2.2.2.2.2.2.2.2) r.1 s.heap.size) ([.ref o] : List Value).toArray s 0 0 (va_A (ww_Fm_firstWrong g o o_text o_text_row o_place o_index o_flags o_width o_precision o_conversion o_after (.ref o_text) (.ref o_place) (.ref o_after) (.ref o_flags) (.ref o_width) (.ref o_precision) (.ref o_conversion) (.ref o_index) o_directives o_present o_at (.ref o_text_row) o_text_length o_text_over o_text_row_n o_text_row_c o_place_c o_index_c o_flags_c o_width_c o_precision_c o_conversion_c o_after_c) s.heap.size)) (F0 m 12 ls []) := by
    intro n
    induction n with
    | zero => intro v1 o_atq o_directivesq o_width_cq o_index_cq o_precision_cq o_conversion_cq o_flags_cq o_place_cq o_after_cq ls H locs hl hS hP hD hf; cases hf
    | succ n ih =>
      intro v1 o_atq o_directivesq o_width_cq o_index_cq o_precision_cq o_conversion_cq o_flags_cq o_place_cq o_after_cq ls H locs hl hS hP hD hf
      have hf : (if o_text_length ≤ v1 then (some ((-1 : Int32), o_atq, o_directivesq, o_width_cq, o_index_cq, o_precision_cq, o_conversion_cq, o_flags_cq, o_place_cq, o_after_cq)) else (if v1 < o_atq then (f_Fm_firstWrong_54 (fun v1 o_text_row_n o_text_length o_atq o_text_row_c o_directivesq o_width_cq o_index_cq o_precision_cq o_conversion_cq o_flags_cq o_place_cq o_after_cq => f_Fm_firstWrong_12 n v1 o_text_row_n o_text_length o_atq o_text_row_c o_directivesq o_width_cq o_index_cq o_precision_cq o_conversion_cq o_flags_cq o_place_cq o_after_cq) v1 o_text_row_n o_text_length o_atq o_text_row_c o_directivesq o_width_cq o_index_cq o_precision_cq o_conversion_cq o_flags_cq o_place_cq o_after_cq) else ((f_By_at v1 o_text_row_n o_text_length o_text_row_c).bind fun u36 => if u36 = (37 : Int32) then ((f_Fm_readDirective v1 o_text_row_n o_directivesq o_atq o_text_length o_text_row_c o_width_cq o_index_cq o_precision_cq o_conversion_cq o_flags_cq o_place_cq o_after_cq).bind fun u46 => if u46.1 = 0 then (some (v1, u46.2.2.1, u46.2.1, u46.2.2.2.1, u46.2.2.2.2.1, u46.2.2.2.2.2.1, u46.2.2.2.2.2.2.1, u46.2.2.2.2.2.2.2.1, u46.2.2.2.2.2.2.2.2.1, u46.2.2.2.2.2.2.2.2.2)) else (f_Fm_firstWrong_54 (fun v1 o_text_row_n o_text_length o_atq o_text_row_c o_directivesq o_width_cq o_index_cq o_precision_cq o_conversion_cq o_flags_cq o_place_cq o_after_cq => f_Fm_firstWrong_12 n v1 o_text_row_n o_text_length o_atq o_text_row_c o_directivesq o_width_cq o_index_cq o_precision_cq o_conversion_cq o_flags_cq o_place_cq o_after_cq) v1 o_text_row_n o_text_length u46.2.2.1 o_text_row_c u46.2.1 u46.2.2.2.1 u46.2.2.2.2.1 u46.2.2.2.2.2.1 u46.2.2.2.2.2.2.1 u46.2.2.2.2.2.2.2.1 u46.2.2.2.2.2.2.2.2.1 u46.2.2.2.2.2.2.2.2.2)) else (f_Fm_firstWrong_54 (fun v1 o_text_row_n o_text_length o_atq o_text_row_c o_directivesq o_width_cq o_index_cq o_precision_cq o_conversion_cq o_flags_cq o_place_cq o_after_cq => f_Fm_firstWrong_12 n v1 o_text_row_n o_text_length o_atq o_text_row_c o_directivesq o_width_cq o_index_cq o_precision_cq o_conversion_cq o_flags_cq o_place_cq o_after_cq) v1 o_text_row_n o_text_length o_atq o_text_row_c o_directivesq o_width_cq o_index_cq o_precision_cq o_conversion_cq o_flags_cq o_place_cq o_after_cq)))) = some r := hf
      refine lv_iload_n S.1 S.2.1 d_Fm_firstWrong_12 rfl (lv_at hl 1 rfl) ?_
      refine lv_aload_n S.1 S.2.1 d_Fm_firstWrong_13 rfl (lv_at hl 0 rfl) ?_
      refine gx_gf (v := .ref o_text) S E hP 0 rfl rfl i_Fm 0 rfl wd_260 ⟨rfl, rfl, rfl⟩ rfl d_Fm_firstWrong_14 ?_
      refine gx_gf (v := .int o_text_length) S E hP 1 rfl rfl i_By 1 rfl wd_50 ⟨rfl, rfl, rfl⟩ rfl d_Fm_firstWrong_17 ?_
      refine lv_icmp_ge (tgt := 60) S.1 S.2.1 d_Fm_firstWrong_20 (by decide) (fun h => ?_) (fun h => ?_)
      ·
        have hf := gx_ifp h hf
        refine lv_iconst (v := (-1)) S.1 S.2.1 d_Fm_firstWrong_60 (by decide) ?_
        obtain rfl := Option.some.inj hf
        exact gx_ri S hr hlk hS hP hD d_Fm_firstWrong_61
      ·
        have hf := gx_ifn h hf
        refine lv_iload_n S.1 S.2.1 d_Fm_firstWrong_23 rfl (lv_at hl 1 rfl) ?_
        refine lv_aload_n S.1 S.2.1 d_Fm_firstWrong_24 rfl (lv_at hl 0 rfl) ?_
        refine gx_gf (v := .int o_atq) S E hP 0 rfl rfl i_Fm 10 rfl wd_280 ⟨rfl, rfl, rfl⟩ rfl d_Fm_firstWrong_25 ?_
        refine lv_icmp_lt (tgt := 54) S.1 S.2.1 d_Fm_firstWrong_28 (by decide) (fun h => ?_) (fun h => ?_)
        ·
          have hf := gx_ifp h hf
          exact c_54 (fun v1 o_text_row_n o_text_length o_atq o_text_row_c o_directivesq o_width_cq o_index_cq o_precision_cq o_conversion_cq o_flags_cq o_place_cq o_after_cq => f_Fm_firstWrong_12 n v1 o_text_row_n o_text_length o_atq o_text_row_c o_directivesq o_width_cq o_index_cq o_precision_cq o_conversion_cq o_flags_cq o_place_cq o_after_cq) ih v1 o_atq o_directivesq o_width_cq o_index_cq o_precision_cq o_conversion_cq o_flags_cq o_place_cq o_after_cq ls _ _ (lv_sub hl [0, 1] rfl) hS hP hD hf
        ·
          have hf := gx_ifn h hf
          refine lv_aload_n S.1 S.2.1 d_Fm_firstWrong_31 rfl (lv_at hl 0 rfl) ?_
          refine gx_gf (v := .ref o_text) S E hP 0 rfl rfl i_Fm 0 rfl wd_260 ⟨rfl, rfl, rfl⟩ rfl d_Fm_firstWrong_32 ?_
          refine lv_iload_n S.1 S.2.1 d_Fm_firstWrong_35 rfl (lv_at hl 1 rfl) ?_
          obtain ⟨u36, hc36, hf⟩ := gx_bnd hf
          refine gx_Vi (ws2 := (ww_Fm_firstWrong g o o_text o_text_row o_place o_index o_flags o_width o_precision o_conversion o_after (.ref o_text) (.ref o_place) (.ref o_after) (.ref o_flags) (.ref o_width) (.ref o_precision) (.ref o_conversion) (.ref o_index) o_directivesq o_present o_atq (.ref o_text_row) o_text_length o_text_over o_text_row_n o_text_row_c o_place_cq o_index_cq o_flags_cq o_width_cq o_precision_cq o_conversion_cq o_after_cq)) S E hS hP hD (c_By_at l z D g o_text o_text_row o_text_length o_text_over o_text_row_n o_text_row_c v1 u36 hc36) cal_By_at wd_752 wd_753 wd_1080 rfl [1, 2] rfl rfl rfl (gx_rc E hP 1 rfl rfl) rfl hl.1 rfl d_Fm_firstWrong_36 ⟨Nat.zero_le _, Nat.zero_le _⟩ rfl (fun H locs hS hP hD => ?_)
          refine lv_bipush (v := 37) S.1 S.2.1 d_Fm_firstWrong_39 (by decide) ?_
          refine lv_icmp_ne (tgt := 54) S.1 S.2.1 d_Fm_firstWrong_41 (by decide) (fun h => ?_) (fun h => ?_)
          ·
            have hf := gx_ifn h hf
            exact c_54 (fun v1 o_text_row_n o_text_length o_atq o_text_row_c o_directivesq o_width_cq o_index_cq o_precision_cq o_conversion_cq o_flags_cq o_place_cq o_after_cq => f_Fm_firstWrong_12 n v1 o_text_row_n o_text_length o_atq o_text_row_c o_directivesq o_width_cq o_index_cq o_precision_cq o_conversion_cq o_flags_cq o_place_cq o_after_cq) ih v1 o_atq o_directivesq o_width_cq o_index_cq o_precision_cq o_conversion_cq o_flags_cq o_place_cq o_after_cq ls _ _ (lv_sub hl [0, 1] rfl) hS hP hD hf
          ·
            have hf := gx_ifp h hf
            refine lv_aload_n S.1 S.2.1 d_Fm_firstWrong_44 rfl (lv_at hl 0 rfl) ?_
            refine lv_iload_n S.1 S.2.1 d_Fm_firstWrong_45 rfl (lv_at hl 1 rfl) ?_
            obtain ⟨u46, hc46, hf⟩ := gx_bnd hf
            refine gx_Vi (ws2 := (ww_Fm_firstWrong g o o_text o_text_row o_place o_index o_flags o_width o_precision o_conversion o_after (.ref o_text) (.ref o_place) (.ref o_after) (.ref o_flags) (.ref o_width) (.ref o_precision) (.ref o_conversion) (.ref o_index) u46.2.1 o_present u46.2.2.1 (.ref o_text_row) o_text_length o_text_over o_text_row_n o_text_row_c u46.2.2.2.2.2.2.2.2.1 u46.2.2.2.2.1 u46.2.2.2.2.2.2.2.1 u46.2.2.2.1 u46.2.2.2.2.2.1 u46.2.2.2.2.2.2.1 u46.2.2.2.2.2.2.2.2.2)) S E hS hP hD (c_Fm_readDirective l z D g o o_place o_index o_flags o_width o_precision o_text o_text_row o_conversion o_after o_directivesq o_present o_atq o_place_cq o_index_cq o_flags_cq o_width_cq o_precision_cq o_text_length o_text_over o_text_row_n o_text_row_c o_conversion_cq o_after_cq v1 u46 hc46) cal_Fm_readDirective wd_1083 ws_40 wd_1081 rfl [0, 3, 4, 5, 6, 7, 1, 2, 8, 9] rfl rfl rfl (gx_rc E hP 0 rfl rfl) rfl hl.1 rfl d_Fm_firstWrong_46 ⟨Nat.zero_le _, Nat.zero_le _⟩ rfl (fun H locs hS hP hD => ?_)
            refine lv_if_ne (tgt := 54) S.1 S.2.1 d_Fm_firstWrong_49 (by decide) (fun h => ?_) (fun h => ?_)
            ·
              have hf := gx_ifn h hf
              exact c_54 (fun v1 o_text_row_n o_text_length o_atq o_text_row_c o_directivesq o_width_cq o_index_cq o_precision_cq o_conversion_cq o_flags_cq o_place_cq o_after_cq => f_Fm_firstWrong_12 n v1 o_text_row_n o_text_length o_atq o_text_row_c o_directivesq o_width_cq o_index_cq o_precision_cq o_conversion_cq o_flags_cq o_place_cq o_after_cq) ih v1 u46.2.2.1 u46.2.1 u46.2.2.2.1 u46.2.2.2.2.1 u46.2.2.2.2.2.1 u46.2.2.2.2.2.2.1 u46.2.2.2.2.2.2.2.1 u46.2.2.2.2.2.2.2.2.1 u46.2.2.2.2.2.2.2.2.2 ls _ _ (lv_sub hl [0, 1] rfl) hS hP hD hf
            ·
              have hf := gx_ifp h hf
              refine lv_iload_n S.1 S.2.1 d_Fm_firstWrong_52 rfl (lv_at hl 1 rfl) ?_
              obtain rfl := Option.some.inj hf
              exact gx_ri S hr hlk hS hP hD d_Fm_firstWrong_53
  have hf : (f_Fm_firstWrong_12 gx_fu (0 : Int32) o_text_row_n o_text_length (0 : Int32) o_text_row_c (0 : Int32) o_width_c o_index_c o_precision_c o_conversion_c o_flags_c o_place_c o_after_c) = some r := hf
  refine lv_aload_n S.1 S.2.1 d_Fm_firstWrong_0 rfl (lv_at hl 0 rfl) ?_
  refine lv_iconst (v := 0) S.1 S.2.1 d_Fm_firstWrong_1 (by decide) ?_
  refine gx_pf (v := .int (0 : Int32)) (ws2 := (ww_Fm_firstWrong g o o_text o_text_row o_place o_index o_flags o_width o_precision o_conversion o_after (.ref o_text) (.ref o_place) (.ref o_after) (.ref o_flags) (.ref o_width) (.ref o_precision) (.ref o_conversion) (.ref o_index) (0 : Int32) o_present o_at (.ref o_text_row) o_text_length o_text_over o_text_row_n o_text_row_c o_place_c o_index_c o_flags_c o_width_c o_precision_c o_conversion_c o_after_c)) S E hS hP hD 0 rfl rfl i_Fm k_Fm n_Fm 8 rfl wd_276 ⟨rfl, rfl, rfl, rfl⟩ rfl rfl rfl d_Fm_firstWrong_2 rfl (fun H locs hS hP hD => ?_)
  refine lv_aload_n S.1 S.2.1 d_Fm_firstWrong_5 rfl (lv_at hl 0 rfl) ?_
  refine lv_iconst (v := 0) S.1 S.2.1 d_Fm_firstWrong_6 (by decide) ?_
  refine gx_pf (v := .int (0 : Int32)) (ws2 := (ww_Fm_firstWrong g o o_text o_text_row o_place o_index o_flags o_width o_precision o_conversion o_after (.ref o_text) (.ref o_place) (.ref o_after) (.ref o_flags) (.ref o_width) (.ref o_precision) (.ref o_conversion) (.ref o_index) (0 : Int32) o_present (0 : Int32) (.ref o_text_row) o_text_length o_text_over o_text_row_n o_text_row_c o_place_c o_index_c o_flags_c o_width_c o_precision_c o_conversion_c o_after_c)) S E hS hP hD 0 rfl rfl i_Fm k_Fm n_Fm 10 rfl wd_280 ⟨rfl, rfl, rfl, rfl⟩ rfl rfl rfl d_Fm_firstWrong_7 rfl (fun H locs hS hP hD => ?_)
  refine lv_iconst (v := 0) S.1 S.2.1 d_Fm_firstWrong_10 (by decide) ?_
  refine lv_istore_n (lv' := [(1, .int (0 : Int32)), (0, .ref o)]) S.1 S.2.1 d_Fm_firstWrong_11 rfl hl (by decide) rfl (fun ls hl => ?_)
  exact c_12 gx_fu (0 : Int32) (0 : Int32) (0 : Int32) o_width_c o_index_c o_precision_c o_conversion_c o_flags_c o_place_c o_after_c ls _ _ (lv_sub hl [1, 0] rfl) hS hP hD hf
theorem d_Fm_allowedFlags_0 : decode b_Fm_allowedFlags 0 = .ok (.iload_n 0, 1) := by decide +kernel
theorem d_Fm_allowedFlags_1 : decode b_Fm_allowedFlags 1 = .ok (.lookupswitch 127 #[(65, 122), (69, 113), (71, 119), (88, 110), (97, 122), (100, 107), (101, 113), (102, 116), (103, 119), (110, 125), (111, 110), (120, 110)], 107) := by decide +kernel
theorem d_Fm_allowedFlags_108 : decode b_Fm_allowedFlags 108 = .ok (.bipush 125, 2) := by decide +kernel
theorem d_Fm_allowedFlags_110 : decode b_Fm_allowedFlags 110 = .ok (.ireturn, 1) := by decide +kernel
theorem d_Fm_allowedFlags_111 : decode b_Fm_allowedFlags 111 = .ok (.bipush 19, 2) := by decide +kernel
theorem d_Fm_allowedFlags_113 : decode b_Fm_allowedFlags 113 = .ok (.ireturn, 1) := by decide +kernel
theorem d_Fm_allowedFlags_114 : decode b_Fm_allowedFlags 114 = .ok (.bipush 95, 2) := by decide +kernel
theorem d_Fm_allowedFlags_116 : decode b_Fm_allowedFlags 116 = .ok (.ireturn, 1) := by decide +kernel
theorem d_Fm_allowedFlags_117 : decode b_Fm_allowedFlags 117 = .ok (.bipush 127, 2) := by decide +kernel
theorem d_Fm_allowedFlags_119 : decode b_Fm_allowedFlags 119 = .ok (.ireturn, 1) := by decide +kernel
theorem d_Fm_allowedFlags_120 : decode b_Fm_allowedFlags 120 = .ok (.bipush 125, 2) := by decide +kernel
theorem d_Fm_allowedFlags_122 : decode b_Fm_allowedFlags 122 = .ok (.ireturn, 1) := by decide +kernel
theorem d_Fm_allowedFlags_123 : decode b_Fm_allowedFlags 123 = .ok (.bipush 31, 2) := by decide +kernel
theorem d_Fm_allowedFlags_125 : decode b_Fm_allowedFlags 125 = .ok (.ireturn, 1) := by decide +kernel
theorem d_Fm_allowedFlags_126 : decode b_Fm_allowedFlags 126 = .ok (.iconst 0, 1) := by decide +kernel
theorem d_Fm_allowedFlags_127 : decode b_Fm_allowedFlags 127 = .ok (.ireturn, 1) := by decide +kernel
theorem d_Fm_allowedFlags_128 : decode b_Fm_allowedFlags 128 = .ok (.iconst 1, 1) := by decide +kernel
theorem d_Fm_allowedFlags_129 : decode b_Fm_allowedFlags 129 = .ok (.ireturn, 1) := by decide +kernel
theorem cal_Fm_allowedFlags : gx_cal y_Fm_allowedFlags b_Fm_allowedFlags 1 (some .int) 1 := ⟨wd_1170, wd_11, by decide +kernel⟩
def ww_Fm_allowedFlags (g : Nat → ClassId)  : va_W := []
def f_Fm_allowedFlags (a1 : Int32) : Option (Int32) := if a1 = (65 : Int32) then (some (31 : Int32)) else if a1 = (69 : Int32) then (some (95 : Int32)) else if a1 = (71 : Int32) then (some (125 : Int32)) else if a1 = (88 : Int32) then (some (19 : Int32)) else if a1 = (97 : Int32) then (some (31 : Int32)) else if a1 = (100 : Int32) then (some (125 : Int32)) else if a1 = (101 : Int32) then (some (95 : Int32)) else if a1 = (102 : Int32) then (some (127 : Int32)) else if a1 = (103 : Int32) then (some (125 : Int32)) else if a1 = (110 : Int32) then (some (0 : Int32)) else if a1 = (111 : Int32) then (some (19 : Int32)) else if a1 = (120 : Int32) then (some (19 : Int32)) else (some (1 : Int32))
set_option maxHeartbeats 4000000 in
set_option maxRecDepth 100000 in
theorem c_Fm_allowedFlags (l : Launch) (z : State) (D : va_G) (g : Nat → ClassId) (a1 : Int32) (r : Int32) (hf : f_Fm_allowedFlags a1 = some r) : gx_Mi l z D g y_Fm_allowedFlags b_Fm_allowedFlags 1 .int ({ frames := 0, cells := 0, slots := 0, locals := 0 } : Room) [.int a1] (ww_Fm_allowedFlags g ) (ww_Fm_allowedFlags g ) r := by
  refine gx_go (by decide +kernel) rfl ?_
  intro p e s m below meth c ls S hr hlk hnm E hP hD hl
  have hS : va_S (va_A (ww_Fm_allowedFlags g ) s.heap.size) s.heap s.heap [] := va_S.rf
  have hl : lv_has ls 1 [(0, .int a1)] := hl
  have hf : (if a1 = (65 : Int32) then (some (31 : Int32)) else if a1 = (69 : Int32) then (some (95 : Int32)) else if a1 = (71 : Int32) then (some (125 : Int32)) else if a1 = (88 : Int32) then (some (19 : Int32)) else if a1 = (97 : Int32) then (some (31 : Int32)) else if a1 = (100 : Int32) then (some (125 : Int32)) else if a1 = (101 : Int32) then (some (95 : Int32)) else if a1 = (102 : Int32) then (some (127 : Int32)) else if a1 = (103 : Int32) then (some (125 : Int32)) else if a1 = (110 : Int32) then (some (0 : Int32)) else if a1 = (111 : Int32) then (some (19 : Int32)) else if a1 = (120 : Int32) then (some (19 : Int32)) else (some (1 : Int32))) = some r := hf
  refine lv_iload_n S.1 S.2.1 d_Fm_allowedFlags_0 rfl (lv_at hl 0 rfl) ?_
  by_cases hw1_0 : a1 = (65 : Int32)
  ·
    have hf := gx_ifp hw1_0 hf
    refine lv_lookup (off := 122) (tgt := 123) S.1 S.2.1 d_Fm_allowedFlags_1 (by decide) (by rw [hw1_0]; decide) (by decide) ?_
    refine lv_bipush (v := 31) S.1 S.2.1 d_Fm_allowedFlags_123 (by decide) ?_
    obtain rfl := Option.some.inj hf
    exact gx_ri S hr hlk hS hP hD d_Fm_allowedFlags_125
  have hf := gx_ifn hw1_0 hf
  by_cases hw1_1 : a1 = (69 : Int32)
  ·
    have hf := gx_ifp hw1_1 hf
    refine lv_lookup (off := 113) (tgt := 114) S.1 S.2.1 d_Fm_allowedFlags_1 (by decide) (by rw [hw1_1]; decide) (by decide) ?_
    refine lv_bipush (v := 95) S.1 S.2.1 d_Fm_allowedFlags_114 (by decide) ?_
    obtain rfl := Option.some.inj hf
    exact gx_ri S hr hlk hS hP hD d_Fm_allowedFlags_116
  have hf := gx_ifn hw1_1 hf
  by_cases hw1_2 : a1 = (71 : Int32)
  ·
    have hf := gx_ifp hw1_2 hf
    refine lv_lookup (off := 119) (tgt := 120) S.1 S.2.1 d_Fm_allowedFlags_1 (by decide) (by rw [hw1_2]; decide) (by decide) ?_
    refine lv_bipush (v := 125) S.1 S.2.1 d_Fm_allowedFlags_120 (by decide) ?_
    obtain rfl := Option.some.inj hf
    exact gx_ri S hr hlk hS hP hD d_Fm_allowedFlags_122
  have hf := gx_ifn hw1_2 hf
  by_cases hw1_3 : a1 = (88 : Int32)
  ·
    have hf := gx_ifp hw1_3 hf
    refine lv_lookup (off := 110) (tgt := 111) S.1 S.2.1 d_Fm_allowedFlags_1 (by decide) (by rw [hw1_3]; decide) (by decide) ?_
    refine lv_bipush (v := 19) S.1 S.2.1 d_Fm_allowedFlags_111 (by decide) ?_
    obtain rfl := Option.some.inj hf
    exact gx_ri S hr hlk hS hP hD d_Fm_allowedFlags_113
  have hf := gx_ifn hw1_3 hf
  by_cases hw1_4 : a1 = (97 : Int32)
  ·
    have hf := gx_ifp hw1_4 hf
    refine lv_lookup (off := 122) (tgt := 123) S.1 S.2.1 d_Fm_allowedFlags_1 (by decide) (by rw [hw1_4]; decide) (by decide) ?_
    refine lv_bipush (v := 31) S.1 S.2.1 d_Fm_allowedFlags_123 (by decide) ?_
    obtain rfl := Option.some.inj hf
    exact gx_ri S hr hlk hS hP hD d_Fm_allowedFlags_125
  have hf := gx_ifn hw1_4 hf
  by_cases hw1_5 : a1 = (100 : Int32)
  ·
    have hf := gx_ifp hw1_5 hf
    refine lv_lookup (off := 107) (tgt := 108) S.1 S.2.1 d_Fm_allowedFlags_1 (by decide) (by rw [hw1_5]; decide) (by decide) ?_
    refine lv_bipush (v := 125) S.1 S.2.1 d_Fm_allowedFlags_108 (by decide) ?_
    obtain rfl := Option.some.inj hf
    exact gx_ri S hr hlk hS hP hD d_Fm_allowedFlags_110
  have hf := gx_ifn hw1_5 hf
  by_cases hw1_6 : a1 = (101 : Int32)
  ·
    have hf := gx_ifp hw1_6 hf
    refine lv_lookup (off := 113) (tgt := 114) S.1 S.2.1 d_Fm_allowedFlags_1 (by decide) (by rw [hw1_6]; decide) (by decide) ?_
    refine lv_bipush (v := 95) S.1 S.2.1 d_Fm_allowedFlags_114 (by decide) ?_
    obtain rfl := Option.some.inj hf
    exact gx_ri S hr hlk hS hP hD d_Fm_allowedFlags_116
  have hf := gx_ifn hw1_6 hf
  by_cases hw1_7 : a1 = (102 : Int32)
  ·
    have hf := gx_ifp hw1_7 hf
    refine lv_lookup (off := 116) (tgt := 117) S.1 S.2.1 d_Fm_allowedFlags_1 (by decide) (by rw [hw1_7]; decide) (by decide) ?_
    refine lv_bipush (v := 127) S.1 S.2.1 d_Fm_allowedFlags_117 (by decide) ?_
    obtain rfl := Option.some.inj hf
    exact gx_ri S hr hlk hS hP hD d_Fm_allowedFlags_119
  have hf := gx_ifn hw1_7 hf
  by_cases hw1_8 : a1 = (103 : Int32)
  ·
    have hf := gx_ifp hw1_8 hf
    refine lv_lookup (off := 119) (tgt := 120) S.1 S.2.1 d_Fm_allowedFlags_1 (by decide) (by rw [hw1_8]; decide) (by decide) ?_
    refine lv_bipush (v := 125) S.1 S.2.1 d_Fm_allowedFlags_120 (by decide) ?_
    obtain rfl := Option.some.inj hf
    exact gx_ri S hr hlk hS hP hD d_Fm_allowedFlags_122
  have hf := gx_ifn hw1_8 hf
  by_cases hw1_9 : a1 = (110 : Int32)
  ·
    have hf := gx_ifp hw1_9 hf
    refine lv_lookup (off := 125) (tgt := 126) S.1 S.2.1 d_Fm_allowedFlags_1 (by decide) (by rw [hw1_9]; decide) (by decide) ?_
    refine lv_iconst (v := 0) S.1 S.2.1 d_Fm_allowedFlags_126 (by decide) ?_
    obtain rfl := Option.some.inj hf
    exact gx_ri S hr hlk hS hP hD d_Fm_allowedFlags_127
  have hf := gx_ifn hw1_9 hf
  by_cases hw1_10 : a1 = (111 : Int32)
  ·
    have hf := gx_ifp hw1_10 hf
    refine lv_lookup (off := 110) (tgt := 111) S.1 S.2.1 d_Fm_allowedFlags_1 (by decide) (by rw [hw1_10]; decide) (by decide) ?_
    refine lv_bipush (v := 19) S.1 S.2.1 d_Fm_allowedFlags_111 (by decide) ?_
    obtain rfl := Option.some.inj hf
    exact gx_ri S hr hlk hS hP hD d_Fm_allowedFlags_113
  have hf := gx_ifn hw1_10 hf
  by_cases hw1_11 : a1 = (120 : Int32)
  ·
    have hf := gx_ifp hw1_11 hf
    refine lv_lookup (off := 110) (tgt := 111) S.1 S.2.1 d_Fm_allowedFlags_1 (by decide) (by rw [hw1_11]; decide) (by decide) ?_
    refine lv_bipush (v := 19) S.1 S.2.1 d_Fm_allowedFlags_111 (by decide) ?_
    obtain rfl := Option.some.inj hf
    exact gx_ri S hr hlk hS hP hD d_Fm_allowedFlags_113
  have hf := gx_ifn hw1_11 hf
  refine lv_lookup (off := 127) (tgt := 128) S.1 S.2.1 d_Fm_allowedFlags_1 (by decide) (by show Op.lookupswitch.offset [(65, 122), (69, 113), (71, 119), (88, 110), (97, 122), (100, 107), (101, 113), (102, 116), (103, 119), (110, 125), (111, 110), (120, 110)] _ _ = _; rw [lv_osw hw1_0 (by decide), lv_osw hw1_1 (by decide), lv_osw hw1_2 (by decide), lv_osw hw1_3 (by decide), lv_osw hw1_4 (by decide), lv_osw hw1_5 (by decide), lv_osw hw1_6 (by decide), lv_osw hw1_7 (by decide), lv_osw hw1_8 (by decide), lv_osw hw1_9 (by decide), lv_osw hw1_10 (by decide), lv_osw hw1_11 (by decide)]; rfl) (by decide) ?_
  refine lv_iconst (v := 1) S.1 S.2.1 d_Fm_allowedFlags_128 (by decide) ?_
  obtain rfl := Option.some.inj hf
  exact gx_ri S hr hlk hS hP hD d_Fm_allowedFlags_129
theorem d_Fm_hasBoth_0 : decode b_Fm_hasBoth 0 = .ok (.iload_n 0, 1) := by decide +kernel
theorem d_Fm_hasBoth_1 : decode b_Fm_hasBoth 1 = .ok (.iload_n 1, 1) := by decide +kernel
theorem d_Fm_hasBoth_2 : decode b_Fm_hasBoth 2 = .ok (.iand, 1) := by decide +kernel
theorem d_Fm_hasBoth_3 : decode b_Fm_hasBoth 3 = .ok (.iload_n 1, 1) := by decide +kernel
theorem d_Fm_hasBoth_4 : decode b_Fm_hasBoth 4 = .ok (.if_icmp .ne 7, 3) := by decide +kernel
theorem d_Fm_hasBoth_7 : decode b_Fm_hasBoth 7 = .ok (.iconst 1, 1) := by decide +kernel
theorem d_Fm_hasBoth_8 : decode b_Fm_hasBoth 8 = .ok (.goto 4, 3) := by decide +kernel
theorem d_Fm_hasBoth_11 : decode b_Fm_hasBoth 11 = .ok (.iconst 0, 1) := by decide +kernel
theorem d_Fm_hasBoth_12 : decode b_Fm_hasBoth 12 = .ok (.ireturn, 1) := by decide +kernel
theorem cal_Fm_hasBoth : gx_cal y_Fm_hasBoth b_Fm_hasBoth 2 (some .boolean) 2 := ⟨wd_1173, wd_11, by decide +kernel⟩
def ww_Fm_hasBoth (g : Nat → ClassId)  : va_W := []
def f_Fm_hasBoth (a1 : Int32) (a2 : Int32) : Option (Int32) := if (a1 &&& a2) = a2 then (some (1 : Int32)) else (some (0 : Int32))
set_option maxHeartbeats 4000000 in
set_option maxRecDepth 100000 in
theorem c_Fm_hasBoth (l : Launch) (z : State) (D : va_G) (g : Nat → ClassId) (a1 : Int32) (a2 : Int32) (r : Int32) (hf : f_Fm_hasBoth a1 a2 = some r) : gx_Mi l z D g y_Fm_hasBoth b_Fm_hasBoth 2 .boolean ({ frames := 0, cells := 0, slots := 0, locals := 0 } : Room) [.int a1, .int a2] (ww_Fm_hasBoth g ) (ww_Fm_hasBoth g ) r := by
  refine gx_go (by decide +kernel) rfl ?_
  intro p e s m below meth c ls S hr hlk hnm E hP hD hl
  have hS : va_S (va_A (ww_Fm_hasBoth g ) s.heap.size) s.heap s.heap [] := va_S.rf
  have hl : lv_has ls 2 [(0, .int a1), (1, .int a2)] := hl
  have hf : (if (a1 &&& a2) = a2 then (some (1 : Int32)) else (some (0 : Int32))) = some r := hf
  refine lv_iload_n S.1 S.2.1 d_Fm_hasBoth_0 rfl (lv_at hl 0 rfl) ?_
  refine lv_iload_n S.1 S.2.1 d_Fm_hasBoth_1 rfl (lv_at hl 1 rfl) ?_
  refine lv_iand S.1 S.2.1 d_Fm_hasBoth_2 ?_
  refine lv_iload_n S.1 S.2.1 d_Fm_hasBoth_3 rfl (lv_at hl 1 rfl) ?_
  refine lv_icmp_ne (tgt := 11) S.1 S.2.1 d_Fm_hasBoth_4 (by decide) (fun h => ?_) (fun h => ?_)
  ·
    have hf := gx_ifn h hf
    refine lv_iconst (v := 0) S.1 S.2.1 d_Fm_hasBoth_11 (by decide) ?_
    obtain rfl := Option.some.inj hf
    exact gx_rz S hr gx_n0 hlk hS hP hD d_Fm_hasBoth_12
  ·
    have hf := gx_ifp h hf
    refine lv_iconst (v := 1) S.1 S.2.1 d_Fm_hasBoth_7 (by decide) ?_
    refine lv_goto (tgt := 12) S.1 S.2.1 d_Fm_hasBoth_8 (by decide) ?_
    obtain rfl := Option.some.inj hf
    exact gx_rz S hr gx_n1 hlk hS hP hD d_Fm_hasBoth_12
theorem d_Fm_takesArgument_0 : decode b_Fm_takesArgument 0 = .ok (.aload_n 0, 1) := by decide +kernel
theorem d_Fm_takesArgument_1 : decode b_Fm_takesArgument 1 = .ok (.getfield 36, 3) := by decide +kernel
theorem d_Fm_takesArgument_4 : decode b_Fm_takesArgument 4 = .ok (.iload_n 1, 1) := by decide +kernel
theorem d_Fm_takesArgument_5 : decode b_Fm_takesArgument 5 = .ok (.iaload, 1) := by decide +kernel
theorem d_Fm_takesArgument_6 : decode b_Fm_takesArgument 6 = .ok (.bipush 37, 2) := by decide +kernel
theorem d_Fm_takesArgument_8 : decode b_Fm_takesArgument 8 = .ok (.if_icmp .eq 18, 3) := by decide +kernel
theorem d_Fm_takesArgument_11 : decode b_Fm_takesArgument 11 = .ok (.aload_n 0, 1) := by decide +kernel
theorem d_Fm_takesArgument_12 : decode b_Fm_takesArgument 12 = .ok (.getfield 36, 3) := by decide +kernel
theorem d_Fm_takesArgument_15 : decode b_Fm_takesArgument 15 = .ok (.iload_n 1, 1) := by decide +kernel
theorem d_Fm_takesArgument_16 : decode b_Fm_takesArgument 16 = .ok (.iaload, 1) := by decide +kernel
theorem d_Fm_takesArgument_17 : decode b_Fm_takesArgument 17 = .ok (.bipush 110, 2) := by decide +kernel
theorem d_Fm_takesArgument_19 : decode b_Fm_takesArgument 19 = .ok (.if_icmp .eq 7, 3) := by decide +kernel
theorem d_Fm_takesArgument_22 : decode b_Fm_takesArgument 22 = .ok (.iconst 1, 1) := by decide +kernel
theorem d_Fm_takesArgument_23 : decode b_Fm_takesArgument 23 = .ok (.goto 4, 3) := by decide +kernel
theorem d_Fm_takesArgument_26 : decode b_Fm_takesArgument 26 = .ok (.iconst 0, 1) := by decide +kernel
theorem d_Fm_takesArgument_27 : decode b_Fm_takesArgument 27 = .ok (.ireturn, 1) := by decide +kernel
theorem cal_Fm_takesArgument : gx_cal y_Fm_takesArgument b_Fm_takesArgument 2 (some .boolean) 1 := ⟨wd_1178, wd_11, by decide +kernel⟩
def ww_Fm_takesArgument (g : Nat → ClassId) (o : Nat) (o_conversion : Nat) (x_o_text : Value) (x_o_place : Value) (x_o_after : Value) (x_o_flags : Value) (x_o_width : Value) (x_o_precision : Value) (x_o_conversion : Value) (x_o_index : Value) (x_o_directives : Int32) (x_o_present : Int32) (x_o_at : Int32) (y_o_conversion : Nat → Int32) : va_W := [(o, .inr (5, [x_o_text, x_o_place, x_o_after, x_o_flags, x_o_width, x_o_precision, x_o_conversion, x_o_index, .int x_o_directives, .int x_o_present, .int x_o_at])), (o_conversion, .inl (g 0, 500, .inl y_o_conversion))]
def f_Fm_takesArgument_26 (o_conversion_c : Nat → Int32) : Option (Int32) := some (0 : Int32)
def f_Fm_takesArgument (a1 : Int32) (o_conversion_c : Nat → Int32) : Option (Int32) := if gx_ok a1 500 = true then if (o_conversion_c a1.toNatClampNeg) = (37 : Int32) then (f_Fm_takesArgument_26 o_conversion_c) else (if gx_ok a1 500 = true then if (o_conversion_c a1.toNatClampNeg) = (110 : Int32) then (f_Fm_takesArgument_26 o_conversion_c) else (some (1 : Int32)) else none) else none
set_option maxHeartbeats 4000000 in
set_option maxRecDepth 100000 in
theorem c_Fm_takesArgument (l : Launch) (z : State) (D : va_G) (g : Nat → ClassId) (o : Nat) (o_conversion : Nat) (o_text_v : Value) (o_place_v : Value) (o_after_v : Value) (o_flags_v : Value) (o_width_v : Value) (o_precision_v : Value) (o_index_v : Value) (o_directives : Int32) (o_present : Int32) (o_at : Int32) (o_conversion_c : Nat → Int32) (a1 : Int32) (r : Int32) (hf : f_Fm_takesArgument a1 o_conversion_c = some r) : gx_Mi l z D g y_Fm_takesArgument b_Fm_takesArgument 2 .boolean ({ frames := 0, cells := 0, slots := 0, locals := 0 } : Room) [.ref o, .int a1] (ww_Fm_takesArgument g o o_conversion o_text_v o_place_v o_after_v o_flags_v o_width_v o_precision_v (.ref o_conversion) o_index_v o_directives o_present o_at o_conversion_c) (ww_Fm_takesArgument g o o_conversion o_text_v o_place_v o_after_v o_flags_v o_width_v o_precision_v (.ref o_conversion) o_index_v o_directives o_present o_at o_conversion_c) r := by
  refine gx_go (by decide +kernel) rfl ?_
  intro p e s m below meth c ls S hr hlk hnm E hP hD hl
  have hS : va_S (va_A (ww_Fm_takesArgument g o o_conversion o_text_v o_place_v o_after_v o_flags_v o_width_v o_precision_v (.ref o_conversion) o_index_v o_directives o_present o_at o_conversion_c) s.heap.size) s.heap s.heap [] := va_S.rf
  have hl : lv_has ls 2 [(0, .ref o), (1, .int a1)] := hl
  have c_26 : ∀  (ls : Array Slot) (H : Heap) (locs : List Loc), lv_has ls 2 [] → va_S (va_A (ww_Fm_takesArgument g o o_conversion o_text_v o_place_v o_after_v o_flags_v o_width_v o_precision_v (.ref o_conversion) o_index_v o_directives o_present o_at o_conversion_c) s.heap.size) s.heap H locs → va_P D vwC (ww_Fm_takesArgument g o o_conversion o_text_v o_place_v o_after_v o_flags_v o_width_v o_precision_v (.ref o_conversion) o_index_v o_directives o_present o_at o_conversion_c) H → va_D (va_A (ww_Fm_takesArgument g o o_conversion o_text_v o_place_v o_after_v o_flags_v o_width_v o_precision_v (.ref o_conversion) o_index_v o_directives o_present o_at o_conversion_c) s.heap.size) (ww_Fm_takesArgument g o o_conversion o_text_v o_place_v o_after_v o_flags_v o_width_v o_precision_v (.ref o_conversion) o_index_v o_directives o_present o_at o_conversion_c) → (f_Fm_takesArgument_26 o_conversion_c) = some r → W p l e ({ frames := 0, cells := 0, slots := 0, locals := 0 } : Room) s m ([.ref o, .int a1] : List Value).toArray below meth c H locs 0 0 (MQ below (gx_Qi D (ww_Fm_takesArgument g o o_conversion o_text_v o_place_v o_after_v o_flags_v o_width_v o_precision_v (.ref o_conversion) o_index_v o_directives o_present o_at o_conversion_c) (ww_Fm_takesArgument g o o_conversion o_text_v o_place_v o_after_v o_flags_v o_width_v o_precision_v (.ref o_conversion) o_index_v o_directives o_present o_at o_conversion_c) r s.heap.size) ([.ref o, .int a1] : List Value).toArray s 0 0 (va_A (ww_Fm_takesArgument g o o_conversion o_text_v o_place_v o_after_v o_flags_v o_width_v o_precision_v (.ref o_conversion) o_index_v o_directives o_present o_at o_conversion_c) s.heap.size)) (F0 m 26 ls []) := by
    intro  ls H locs hl hS hP hD hf
    have hf : (some (0 : Int32)) = some r := hf
    refine lv_iconst (v := 0) S.1 S.2.1 d_Fm_takesArgument_26 (by decide) ?_
    obtain rfl := Option.some.inj hf
    exact gx_rz S hr gx_n0 hlk hS hP hD d_Fm_takesArgument_27
  have hf : (if gx_ok a1 500 = true then if (o_conversion_c a1.toNatClampNeg) = (37 : Int32) then (f_Fm_takesArgument_26 o_conversion_c) else (if gx_ok a1 500 = true then if (o_conversion_c a1.toNatClampNeg) = (110 : Int32) then (f_Fm_takesArgument_26 o_conversion_c) else (some (1 : Int32)) else none) else none) = some r := hf
  refine lv_aload_n S.1 S.2.1 d_Fm_takesArgument_0 rfl (lv_at hl 0 rfl) ?_
  refine gx_gf (v := .ref o_conversion) S E hP 0 rfl rfl i_Fm 6 rfl wd_272 ⟨rfl, rfl, rfl⟩ rfl d_Fm_takesArgument_1 ?_
  refine lv_iload_n S.1 S.2.1 d_Fm_takesArgument_4 rfl (lv_at hl 1 rfl) ?_
  obtain ⟨hin, hf⟩ := gx_chk hf
  refine va_iald S.1 S.2.1 E.1.1 hP 1 0 rfl rfl (gx_okv hin) d_Fm_takesArgument_5 ?_
  refine lv_bipush (v := 37) S.1 S.2.1 d_Fm_takesArgument_6 (by decide) ?_
  refine lv_icmp_eq (tgt := 26) S.1 S.2.1 d_Fm_takesArgument_8 (by decide) (fun h => ?_) (fun h => ?_)
  ·
    have hf := gx_ifp h hf
    exact c_26  ls _ _ (lv_sub hl [] rfl) hS hP hD hf
  ·
    have hf := gx_ifn h hf
    refine lv_aload_n S.1 S.2.1 d_Fm_takesArgument_11 rfl (lv_at hl 0 rfl) ?_
    refine gx_gf (v := .ref o_conversion) S E hP 0 rfl rfl i_Fm 6 rfl wd_272 ⟨rfl, rfl, rfl⟩ rfl d_Fm_takesArgument_12 ?_
    refine lv_iload_n S.1 S.2.1 d_Fm_takesArgument_15 rfl (lv_at hl 1 rfl) ?_
    obtain ⟨hin, hf⟩ := gx_chk hf
    refine va_iald S.1 S.2.1 E.1.1 hP 1 0 rfl rfl (gx_okv hin) d_Fm_takesArgument_16 ?_
    refine lv_bipush (v := 110) S.1 S.2.1 d_Fm_takesArgument_17 (by decide) ?_
    refine lv_icmp_eq (tgt := 26) S.1 S.2.1 d_Fm_takesArgument_19 (by decide) (fun h => ?_) (fun h => ?_)
    ·
      have hf := gx_ifp h hf
      exact c_26  ls _ _ (lv_sub hl [] rfl) hS hP hD hf
    ·
      have hf := gx_ifn h hf
      refine lv_iconst (v := 1) S.1 S.2.1 d_Fm_takesArgument_22 (by decide) ?_
      refine lv_goto (tgt := 27) S.1 S.2.1 d_Fm_takesArgument_23 (by decide) ?_
      obtain rfl := Option.some.inj hf
      exact gx_rz S hr gx_n1 hlk hS hP hD d_Fm_takesArgument_27
theorem d_Fm_isBarred_0 : decode b_Fm_isBarred 0 = .ok (.aload_n 0, 1) := by decide +kernel
theorem d_Fm_isBarred_1 : decode b_Fm_isBarred 1 = .ok (.getfield 36, 3) := by decide +kernel
theorem d_Fm_isBarred_4 : decode b_Fm_isBarred 4 = .ok (.iload_n 1, 1) := by decide +kernel
theorem d_Fm_isBarred_5 : decode b_Fm_isBarred 5 = .ok (.iaload, 1) := by decide +kernel
theorem d_Fm_isBarred_6 : decode b_Fm_isBarred 6 = .ok (.istore_n 2, 1) := by decide +kernel
theorem d_Fm_isBarred_7 : decode b_Fm_isBarred 7 = .ok (.aload_n 0, 1) := by decide +kernel
theorem d_Fm_isBarred_8 : decode b_Fm_isBarred 8 = .ok (.getfield 27, 3) := by decide +kernel
theorem d_Fm_isBarred_11 : decode b_Fm_isBarred 11 = .ok (.iload_n 1, 1) := by decide +kernel
theorem d_Fm_isBarred_12 : decode b_Fm_isBarred 12 = .ok (.iaload, 1) := by decide +kernel
theorem d_Fm_isBarred_13 : decode b_Fm_isBarred 13 = .ok (.iload_n 2, 1) := by decide +kernel
theorem d_Fm_isBarred_14 : decode b_Fm_isBarred 14 = .ok (.invokestatic 98, 3) := by decide +kernel
theorem d_Fm_isBarred_17 : decode b_Fm_isBarred 17 = .ok (.iconst (-1), 1) := by decide +kernel
theorem d_Fm_isBarred_18 : decode b_Fm_isBarred 18 = .ok (.ixor, 1) := by decide +kernel
theorem d_Fm_isBarred_19 : decode b_Fm_isBarred 19 = .ok (.iand, 1) := by decide +kernel
theorem d_Fm_isBarred_20 : decode b_Fm_isBarred 20 = .ok (.ifCond .eq 5, 3) := by decide +kernel
theorem d_Fm_isBarred_23 : decode b_Fm_isBarred 23 = .ok (.iconst 1, 1) := by decide +kernel
theorem d_Fm_isBarred_24 : decode b_Fm_isBarred 24 = .ok (.ireturn, 1) := by decide +kernel
theorem d_Fm_isBarred_25 : decode b_Fm_isBarred 25 = .ok (.aload_n 0, 1) := by decide +kernel
theorem d_Fm_isBarred_26 : decode b_Fm_isBarred 26 = .ok (.getfield 27, 3) := by decide +kernel
theorem d_Fm_isBarred_29 : decode b_Fm_isBarred 29 = .ok (.iload_n 1, 1) := by decide +kernel
theorem d_Fm_isBarred_30 : decode b_Fm_isBarred 30 = .ok (.iaload, 1) := by decide +kernel
theorem d_Fm_isBarred_31 : decode b_Fm_isBarred 31 = .ok (.bipush 17, 2) := by decide +kernel
theorem d_Fm_isBarred_33 : decode b_Fm_isBarred 33 = .ok (.invokestatic 101, 3) := by decide +kernel
theorem d_Fm_isBarred_36 : decode b_Fm_isBarred 36 = .ok (.ifCond .ne 17, 3) := by decide +kernel
theorem d_Fm_isBarred_39 : decode b_Fm_isBarred 39 = .ok (.aload_n 0, 1) := by decide +kernel
theorem d_Fm_isBarred_40 : decode b_Fm_isBarred 40 = .ok (.getfield 27, 3) := by decide +kernel
theorem d_Fm_isBarred_43 : decode b_Fm_isBarred 43 = .ok (.iload_n 1, 1) := by decide +kernel
theorem d_Fm_isBarred_44 : decode b_Fm_isBarred 44 = .ok (.iaload, 1) := by decide +kernel
theorem d_Fm_isBarred_45 : decode b_Fm_isBarred 45 = .ok (.bipush 12, 2) := by decide +kernel
theorem d_Fm_isBarred_47 : decode b_Fm_isBarred 47 = .ok (.invokestatic 101, 3) := by decide +kernel
theorem d_Fm_isBarred_50 : decode b_Fm_isBarred 50 = .ok (.ifCond .eq 5, 3) := by decide +kernel
theorem d_Fm_isBarred_53 : decode b_Fm_isBarred 53 = .ok (.iconst 1, 1) := by decide +kernel
theorem d_Fm_isBarred_54 : decode b_Fm_isBarred 54 = .ok (.ireturn, 1) := by decide +kernel
theorem d_Fm_isBarred_55 : decode b_Fm_isBarred 55 = .ok (.aload_n 0, 1) := by decide +kernel
theorem d_Fm_isBarred_56 : decode b_Fm_isBarred 56 = .ok (.getfield 27, 3) := by decide +kernel
theorem d_Fm_isBarred_59 : decode b_Fm_isBarred 59 = .ok (.iload_n 1, 1) := by decide +kernel
theorem d_Fm_isBarred_60 : decode b_Fm_isBarred 60 = .ok (.iaload, 1) := by decide +kernel
theorem d_Fm_isBarred_61 : decode b_Fm_isBarred 61 = .ok (.bipush 17, 2) := by decide +kernel
theorem d_Fm_isBarred_63 : decode b_Fm_isBarred 63 = .ok (.iand, 1) := by decide +kernel
theorem d_Fm_isBarred_64 : decode b_Fm_isBarred 64 = .ok (.ifCond .eq 15, 3) := by decide +kernel
theorem d_Fm_isBarred_67 : decode b_Fm_isBarred 67 = .ok (.aload_n 0, 1) := by decide +kernel
theorem d_Fm_isBarred_68 : decode b_Fm_isBarred 68 = .ok (.getfield 30, 3) := by decide +kernel
theorem d_Fm_isBarred_71 : decode b_Fm_isBarred 71 = .ok (.iload_n 1, 1) := by decide +kernel
theorem d_Fm_isBarred_72 : decode b_Fm_isBarred 72 = .ok (.iaload, 1) := by decide +kernel
theorem d_Fm_isBarred_73 : decode b_Fm_isBarred 73 = .ok (.iconst (-1), 1) := by decide +kernel
theorem d_Fm_isBarred_74 : decode b_Fm_isBarred 74 = .ok (.if_icmp .ne 5, 3) := by decide +kernel
theorem d_Fm_isBarred_77 : decode b_Fm_isBarred 77 = .ok (.iconst 1, 1) := by decide +kernel
theorem d_Fm_isBarred_78 : decode b_Fm_isBarred 78 = .ok (.ireturn, 1) := by decide +kernel
theorem d_Fm_isBarred_79 : decode b_Fm_isBarred 79 = .ok (.aload_n 0, 1) := by decide +kernel
theorem d_Fm_isBarred_80 : decode b_Fm_isBarred 80 = .ok (.getfield 33, 3) := by decide +kernel
theorem d_Fm_isBarred_83 : decode b_Fm_isBarred 83 = .ok (.iload_n 1, 1) := by decide +kernel
theorem d_Fm_isBarred_84 : decode b_Fm_isBarred 84 = .ok (.iaload, 1) := by decide +kernel
theorem d_Fm_isBarred_85 : decode b_Fm_isBarred 85 = .ok (.iconst (-1), 1) := by decide +kernel
theorem d_Fm_isBarred_86 : decode b_Fm_isBarred 86 = .ok (.if_icmp .eq 14, 3) := by decide +kernel
theorem d_Fm_isBarred_89 : decode b_Fm_isBarred 89 = .ok (.ldc 105, 2) := by decide +kernel
theorem d_Fm_isBarred_91 : decode b_Fm_isBarred 91 = .ok (.iload_n 2, 1) := by decide +kernel
theorem d_Fm_isBarred_92 : decode b_Fm_isBarred 92 = .ok (.invokestatic 78, 3) := by decide +kernel
theorem d_Fm_isBarred_95 : decode b_Fm_isBarred 95 = .ok (.ifCond .eq 5, 3) := by decide +kernel
theorem d_Fm_isBarred_98 : decode b_Fm_isBarred 98 = .ok (.iconst 1, 1) := by decide +kernel
theorem d_Fm_isBarred_99 : decode b_Fm_isBarred 99 = .ok (.ireturn, 1) := by decide +kernel
theorem d_Fm_isBarred_100 : decode b_Fm_isBarred 100 = .ok (.iload_n 2, 1) := by decide +kernel
theorem d_Fm_isBarred_101 : decode b_Fm_isBarred 101 = .ok (.bipush 110, 2) := by decide +kernel
theorem d_Fm_isBarred_103 : decode b_Fm_isBarred 103 = .ok (.if_icmp .ne 15, 3) := by decide +kernel
theorem d_Fm_isBarred_106 : decode b_Fm_isBarred 106 = .ok (.aload_n 0, 1) := by decide +kernel
theorem d_Fm_isBarred_107 : decode b_Fm_isBarred 107 = .ok (.getfield 30, 3) := by decide +kernel
theorem d_Fm_isBarred_110 : decode b_Fm_isBarred 110 = .ok (.iload_n 1, 1) := by decide +kernel
theorem d_Fm_isBarred_111 : decode b_Fm_isBarred 111 = .ok (.iaload, 1) := by decide +kernel
theorem d_Fm_isBarred_112 : decode b_Fm_isBarred 112 = .ok (.iconst (-1), 1) := by decide +kernel
theorem d_Fm_isBarred_113 : decode b_Fm_isBarred 113 = .ok (.if_icmp .eq 5, 3) := by decide +kernel
theorem d_Fm_isBarred_116 : decode b_Fm_isBarred 116 = .ok (.iconst 1, 1) := by decide +kernel
theorem d_Fm_isBarred_117 : decode b_Fm_isBarred 117 = .ok (.ireturn, 1) := by decide +kernel
theorem d_Fm_isBarred_118 : decode b_Fm_isBarred 118 = .ok (.aload_n 0, 1) := by decide +kernel
theorem d_Fm_isBarred_119 : decode b_Fm_isBarred 119 = .ok (.iload_n 1, 1) := by decide +kernel
theorem d_Fm_isBarred_120 : decode b_Fm_isBarred 120 = .ok (.invokevirtual 107, 3) := by decide +kernel
theorem d_Fm_isBarred_123 : decode b_Fm_isBarred 123 = .ok (.ifCond .ne 16, 3) := by decide +kernel
theorem d_Fm_isBarred_126 : decode b_Fm_isBarred 126 = .ok (.aload_n 0, 1) := by decide +kernel
theorem d_Fm_isBarred_127 : decode b_Fm_isBarred 127 = .ok (.getfield 39, 3) := by decide +kernel
theorem d_Fm_isBarred_130 : decode b_Fm_isBarred 130 = .ok (.iload_n 1, 1) := by decide +kernel
theorem d_Fm_isBarred_131 : decode b_Fm_isBarred 131 = .ok (.iaload, 1) := by decide +kernel
theorem d_Fm_isBarred_132 : decode b_Fm_isBarred 132 = .ok (.ifCond .eq 7, 3) := by decide +kernel
theorem d_Fm_isBarred_135 : decode b_Fm_isBarred 135 = .ok (.iconst 1, 1) := by decide +kernel
theorem d_Fm_isBarred_136 : decode b_Fm_isBarred 136 = .ok (.goto 4, 3) := by decide +kernel
theorem d_Fm_isBarred_139 : decode b_Fm_isBarred 139 = .ok (.iconst 0, 1) := by decide +kernel
theorem d_Fm_isBarred_140 : decode b_Fm_isBarred 140 = .ok (.ireturn, 1) := by decide +kernel
theorem cal_Fm_isBarred : gx_cal y_Fm_isBarred b_Fm_isBarred 3 (some .boolean) 1 := ⟨wd_1167, wd_11, by decide +kernel⟩
def ww_Fm_isBarred (g : Nat → ClassId) (o : Nat) (o_conversion : Nat) (o_flags : Nat) (o_precision : Nat) (o_index : Nat) (o_width : Nat) (x_o_text : Value) (x_o_place : Value) (x_o_after : Value) (x_o_flags : Value) (x_o_width : Value) (x_o_precision : Value) (x_o_conversion : Value) (x_o_index : Value) (x_o_directives : Int32) (x_o_present : Int32) (x_o_at : Int32) (y_o_conversion : Nat → Int32) (y_o_flags : Nat → Int32) (y_o_precision : Nat → Int32) (y_o_index : Nat → Int32) (y_o_width : Nat → Int32) : va_W := [(o, .inr (5, [x_o_text, x_o_place, x_o_after, x_o_flags, x_o_width, x_o_precision, x_o_conversion, x_o_index, .int x_o_directives, .int x_o_present, .int x_o_at])), (o_conversion, .inl (g 0, 500, .inl y_o_conversion)), (o_flags, .inl (g 0, 500, .inl y_o_flags)), (o_precision, .inl (g 0, 500, .inl y_o_precision)), (o_index, .inl (g 0, 500, .inl y_o_index)), (o_width, .inl (g 0, 500, .inl y_o_width))]
def f_Fm_isBarred_139 (o_conversion_c : Nat → Int32) (o_flags_c : Nat → Int32) (o_precision_c : Nat → Int32) (o_index_c : Nat → Int32) (o_width_c : Nat → Int32) : Option (Int32) := some (0 : Int32)
def f_Fm_isBarred_118 (v1 : Int32) (o_conversion_c : Nat → Int32) (o_flags_c : Nat → Int32) (o_precision_c : Nat → Int32) (o_index_c : Nat → Int32) (o_width_c : Nat → Int32) : Option (Int32) := (f_Fm_takesArgument v1 o_conversion_c).bind fun u120 => if u120 = 0 then (if gx_ok v1 500 = true then if (o_index_c v1.toNatClampNeg) = 0 then (f_Fm_isBarred_139 o_conversion_c o_flags_c o_precision_c o_index_c o_width_c) else (some (1 : Int32)) else none) else (f_Fm_isBarred_139 o_conversion_c o_flags_c o_precision_c o_index_c o_width_c)
def f_Fm_isBarred_100 (v1 : Int32) (v2 : Int32) (o_conversion_c : Nat → Int32) (o_flags_c : Nat → Int32) (o_precision_c : Nat → Int32) (o_index_c : Nat → Int32) (o_width_c : Nat → Int32) : Option (Int32) := if v2 = (110 : Int32) then (if gx_ok v1 500 = true then if (o_width_c v1.toNatClampNeg) = (-1 : Int32) then (f_Fm_isBarred_118 v1 o_conversion_c o_flags_c o_precision_c o_index_c o_width_c) else (some (1 : Int32)) else none) else (f_Fm_isBarred_118 v1 o_conversion_c o_flags_c o_precision_c o_index_c o_width_c)
def f_Fm_isBarred_79 (v1 : Int32) (v2 : Int32) (o_conversion_c : Nat → Int32) (o_flags_c : Nat → Int32) (o_precision_c : Nat → Int32) (o_index_c : Nat → Int32) (o_width_c : Nat → Int32) : Option (Int32) := if gx_ok v1 500 = true then if (o_precision_c v1.toNatClampNeg) = (-1 : Int32) then (f_Fm_isBarred_100 v1 v2 o_conversion_c o_flags_c o_precision_c o_index_c o_width_c) else ((f_Fm_has 33 v2).bind fun u92 => if u92 = 0 then (f_Fm_isBarred_100 v1 v2 o_conversion_c o_flags_c o_precision_c o_index_c o_width_c) else (some (1 : Int32))) else none
def f_Fm_isBarred (a1 : Int32) (o_conversion_c : Nat → Int32) (o_flags_c : Nat → Int32) (o_precision_c : Nat → Int32) (o_index_c : Nat → Int32) (o_width_c : Nat → Int32) : Option (Int32) := if gx_ok a1 500 = true then if gx_ok a1 500 = true then (f_Fm_allowedFlags (o_conversion_c a1.toNatClampNeg)).bind fun u14 => if ((o_flags_c a1.toNatClampNeg) &&& (u14 ^^^ (-1 : Int32))) = 0 then (if gx_ok a1 500 = true then (f_Fm_hasBoth (o_flags_c a1.toNatClampNeg) (17 : Int32)).bind fun u33 => if u33 = 0 then (if gx_ok a1 500 = true then (f_Fm_hasBoth (o_flags_c a1.toNatClampNeg) (12 : Int32)).bind fun u47 => if u47 = 0 then (if gx_ok a1 500 = true then if ((o_flags_c a1.toNatClampNeg) &&& (17 : Int32)) = 0 then (f_Fm_isBarred_79 a1 (o_conversion_c a1.toNatClampNeg) o_conversion_c o_flags_c o_precision_c o_index_c o_width_c) else (if gx_ok a1 500 = true then if (o_width_c a1.toNatClampNeg) = (-1 : Int32) then (some (1 : Int32)) else (f_Fm_isBarred_79 a1 (o_conversion_c a1.toNatClampNeg) o_conversion_c o_flags_c o_precision_c o_index_c o_width_c) else none) else none) else (some (1 : Int32)) else none) else (some (1 : Int32)) else none) else (some (1 : Int32)) else none else none
set_option maxHeartbeats 4000000 in
set_option maxRecDepth 100000 in
theorem c_Fm_isBarred (l : Launch) (z : State) (D : va_G) (g : Nat → ClassId) (o : Nat) (o_conversion : Nat) (o_flags : Nat) (o_precision : Nat) (o_index : Nat) (o_width : Nat) (o_text_v : Value) (o_place_v : Value) (o_after_v : Value) (o_directives : Int32) (o_present : Int32) (o_at : Int32) (o_conversion_c : Nat → Int32) (o_flags_c : Nat → Int32) (o_precision_c : Nat → Int32) (o_index_c : Nat → Int32) (o_width_c : Nat → Int32) (a1 : Int32) (r : Int32) (hf : f_Fm_isBarred a1 o_conversion_c o_flags_c o_precision_c o_index_c o_width_c = some r) : gx_Mi l z D g y_Fm_isBarred b_Fm_isBarred 3 .boolean ({ frames := 5, cells := 0, slots := 0, locals := 112 } : Room) [.ref o, .int a1] (ww_Fm_isBarred g o o_conversion o_flags o_precision o_index o_width o_text_v o_place_v o_after_v (.ref o_flags) (.ref o_width) (.ref o_precision) (.ref o_conversion) (.ref o_index) o_directives o_present o_at o_conversion_c o_flags_c o_precision_c o_index_c o_width_c) (ww_Fm_isBarred g o o_conversion o_flags o_precision o_index o_width o_text_v o_place_v o_after_v (.ref o_flags) (.ref o_width) (.ref o_precision) (.ref o_conversion) (.ref o_index) o_directives o_present o_at o_conversion_c o_flags_c o_precision_c o_index_c o_width_c) r := by
  refine gx_go (by decide +kernel) rfl ?_
  intro p e s m below meth c ls S hr hlk hnm E hP hD hl
  have hS : va_S (va_A (ww_Fm_isBarred g o o_conversion o_flags o_precision o_index o_width o_text_v o_place_v o_after_v (.ref o_flags) (.ref o_width) (.ref o_precision) (.ref o_conversion) (.ref o_index) o_directives o_present o_at o_conversion_c o_flags_c o_precision_c o_index_c o_width_c) s.heap.size) s.heap s.heap [] := va_S.rf
  have hl : lv_has ls 3 [(0, .ref o), (1, .int a1)] := hl
  have c_139 : ∀  (ls : Array Slot) (H : Heap) (locs : List Loc), lv_has ls 3 [] → va_S (va_A (ww_Fm_isBarred g o o_conversion o_flags o_precision o_index o_width o_text_v o_place_v o_after_v (.ref o_flags) (.ref o_width) (.ref o_precision) (.ref o_conversion) (.ref o_index) o_directives o_present o_at o_conversion_c o_flags_c o_precision_c o_index_c o_width_c) s.heap.size) s.heap H locs → va_P D vwC (ww_Fm_isBarred g o o_conversion o_flags o_precision o_index o_width o_text_v o_place_v o_after_v (.ref o_flags) (.ref o_width) (.ref o_precision) (.ref o_conversion) (.ref o_index) o_directives o_present o_at o_conversion_c o_flags_c o_precision_c o_index_c o_width_c) H → va_D (va_A (ww_Fm_isBarred g o o_conversion o_flags o_precision o_index o_width o_text_v o_place_v o_after_v (.ref o_flags) (.ref o_width) (.ref o_precision) (.ref o_conversion) (.ref o_index) o_directives o_present o_at o_conversion_c o_flags_c o_precision_c o_index_c o_width_c) s.heap.size) (ww_Fm_isBarred g o o_conversion o_flags o_precision o_index o_width o_text_v o_place_v o_after_v (.ref o_flags) (.ref o_width) (.ref o_precision) (.ref o_conversion) (.ref o_index) o_directives o_present o_at o_conversion_c o_flags_c o_precision_c o_index_c o_width_c) → (f_Fm_isBarred_139 o_conversion_c o_flags_c o_precision_c o_index_c o_width_c) = some r → W p l e ({ frames := 5, cells := 0, slots := 0, locals := 112 } : Room) s m ([.ref o, .int a1] : List Value).toArray below meth c H locs 0 0 (MQ below (gx_Qi D (ww_Fm_isBarred g o o_conversion o_flags o_precision o_index o_width o_text_v o_place_v o_after_v (.ref o_flags) (.ref o_width) (.ref o_precision) (.ref o_conversion) (.ref o_index) o_directives o_present o_at o_conversion_c o_flags_c o_precision_c o_index_c o_width_c) (ww_Fm_isBarred g o o_conversion o_flags o_precision o_index o_width o_text_v o_place_v o_after_v (.ref o_flags) (.ref o_width) (.ref o_precision) (.ref o_conversion) (.ref o_index) o_directives o_present o_at o_conversion_c o_flags_c o_precision_c o_index_c o_width_c) r s.heap.size) ([.ref o, .int a1] : List Value).toArray s 0 0 (va_A (ww_Fm_isBarred g o o_conversion o_flags o_precision o_index o_width o_text_v o_place_v o_after_v (.ref o_flags) (.ref o_width) (.ref o_precision) (.ref o_conversion) (.ref o_index) o_directives o_present o_at o_conversion_c o_flags_c o_precision_c o_index_c o_width_c) s.heap.size)) (F0 m 139 ls []) := by
    intro  ls H locs hl hS hP hD hf
    have hf : (some (0 : Int32)) = some r := hf
    refine lv_iconst (v := 0) S.1 S.2.1 d_Fm_isBarred_139 (by decide) ?_
    obtain rfl := Option.some.inj hf
    exact gx_rz S hr gx_n0 hlk hS hP hD d_Fm_isBarred_140
  have c_118 : ∀ (v1 : Int32) (ls : Array Slot) (H : Heap) (locs : List Loc), lv_has ls 3 [(0, .ref o), (1, .int v1)] → va_S (va_A (ww_Fm_isBarred g o o_conversion o_flags o_precision o_index o_width o_text_v o_place_v o_after_v (.ref o_flags) (.ref o_width) (.ref o_precision) (.ref o_conversion) (.ref o_index) o_directives o_present o_at o_conversion_c o_flags_c o_precision_c o_index_c o_width_c) s.heap.size) s.heap H locs → va_P D vwC (ww_Fm_isBarred g o o_conversion o_flags o_precision o_index o_width o_text_v o_place_v o_after_v (.ref o_flags) (.ref o_width) (.ref o_precision) (.ref o_conversion) (.ref o_index) o_directives o_present o_at o_conversion_c o_flags_c o_precision_c o_index_c o_width_c) H → va_D (va_A (ww_Fm_isBarred g o o_conversion o_flags o_precision o_index o_width o_text_v o_place_v o_after_v (.ref o_flags) (.ref o_width) (.ref o_precision) (.ref o_conversion) (.ref o_index) o_directives o_present o_at o_conversion_c o_flags_c o_precision_c o_index_c o_width_c) s.heap.size) (ww_Fm_isBarred g o o_conversion o_flags o_precision o_index o_width o_text_v o_place_v o_after_v (.ref o_flags) (.ref o_width) (.ref o_precision) (.ref o_conversion) (.ref o_index) o_directives o_present o_at o_conversion_c o_flags_c o_precision_c o_index_c o_width_c) → (f_Fm_isBarred_118 v1 o_conversion_c o_flags_c o_precision_c o_index_c o_width_c) = some r → W p l e ({ frames := 5, cells := 0, slots := 0, locals := 112 } : Room) s m ([.ref o, .int a1] : List Value).toArray below meth c H locs 0 0 (MQ below (gx_Qi D (ww_Fm_isBarred g o o_conversion o_flags o_precision o_index o_width o_text_v o_place_v o_after_v (.ref o_flags) (.ref o_width) (.ref o_precision) (.ref o_conversion) (.ref o_index) o_directives o_present o_at o_conversion_c o_flags_c o_precision_c o_index_c o_width_c) (ww_Fm_isBarred g o o_conversion o_flags o_precision o_index o_width o_text_v o_place_v o_after_v (.ref o_flags) (.ref o_width) (.ref o_precision) (.ref o_conversion) (.ref o_index) o_directives o_present o_at o_conversion_c o_flags_c o_precision_c o_index_c o_width_c) r s.heap.size) ([.ref o, .int a1] : List Value).toArray s 0 0 (va_A (ww_Fm_isBarred g o o_conversion o_flags o_precision o_index o_width o_text_v o_place_v o_after_v (.ref o_flags) (.ref o_width) (.ref o_precision) (.ref o_conversion) (.ref o_index) o_directives o_present o_at o_conversion_c o_flags_c o_precision_c o_index_c o_width_c) s.heap.size)) (F0 m 118 ls []) := by
    intro v1 ls H locs hl hS hP hD hf
    have hf : ((f_Fm_takesArgument v1 o_conversion_c).bind fun u120 => if u120 = 0 then (if gx_ok v1 500 = true then if (o_index_c v1.toNatClampNeg) = 0 then (f_Fm_isBarred_139 o_conversion_c o_flags_c o_precision_c o_index_c o_width_c) else (some (1 : Int32)) else none) else (f_Fm_isBarred_139 o_conversion_c o_flags_c o_precision_c o_index_c o_width_c)) = some r := hf
    refine lv_aload_n S.1 S.2.1 d_Fm_isBarred_118 rfl (lv_at hl 0 rfl) ?_
    refine lv_iload_n S.1 S.2.1 d_Fm_isBarred_119 rfl (lv_at hl 1 rfl) ?_
    obtain ⟨u120, hc120, hf⟩ := gx_bnd hf
    refine gx_Vi (ws2 := (ww_Fm_isBarred g o o_conversion o_flags o_precision o_index o_width o_text_v o_place_v o_after_v (.ref o_flags) (.ref o_width) (.ref o_precision) (.ref o_conversion) (.ref o_index) o_directives o_present o_at o_conversion_c o_flags_c o_precision_c o_index_c o_width_c)) S E hS hP hD (c_Fm_takesArgument l z D g o o_conversion o_text_v o_place_v o_after_v (.ref o_flags) (.ref o_width) (.ref o_precision) (.ref o_index) o_directives o_present o_at o_conversion_c v1 u120 hc120) cal_Fm_takesArgument wd_1177 ws_45 wd_1175 rfl [0, 1] rfl rfl rfl (gx_rc E hP 0 rfl rfl) rfl hl.1 rfl d_Fm_isBarred_120 ⟨Nat.zero_le _, Nat.zero_le _⟩ rfl (fun H locs hS hP hD => ?_)
    refine lv_if_ne (tgt := 139) S.1 S.2.1 d_Fm_isBarred_123 (by decide) (fun h => ?_) (fun h => ?_)
    ·
      have hf := gx_ifn h hf
      exact c_139  ls _ _ (lv_sub hl [] rfl) hS hP hD hf
    ·
      have hf := gx_ifp h hf
      refine lv_aload_n S.1 S.2.1 d_Fm_isBarred_126 rfl (lv_at hl 0 rfl) ?_
      refine gx_gf (v := .ref o_index) S E hP 0 rfl rfl i_Fm 7 rfl wd_274 ⟨rfl, rfl, rfl⟩ rfl d_Fm_isBarred_127 ?_
      refine lv_iload_n S.1 S.2.1 d_Fm_isBarred_130 rfl (lv_at hl 1 rfl) ?_
      obtain ⟨hin, hf⟩ := gx_chk hf
      refine va_iald S.1 S.2.1 E.1.1 hP 4 0 rfl rfl (gx_okv hin) d_Fm_isBarred_131 ?_
      refine lv_if_eq (tgt := 139) S.1 S.2.1 d_Fm_isBarred_132 (by decide) (fun h => ?_) (fun h => ?_)
      ·
        have hf := gx_ifp h hf
        exact c_139  ls _ _ (lv_sub hl [] rfl) hS hP hD hf
      ·
        have hf := gx_ifn h hf
        refine lv_iconst (v := 1) S.1 S.2.1 d_Fm_isBarred_135 (by decide) ?_
        refine lv_goto (tgt := 140) S.1 S.2.1 d_Fm_isBarred_136 (by decide) ?_
        obtain rfl := Option.some.inj hf
        exact gx_rz S hr gx_n1 hlk hS hP hD d_Fm_isBarred_140
  have c_100 : ∀ (v1 : Int32) (v2 : Int32) (ls : Array Slot) (H : Heap) (locs : List Loc), lv_has ls 3 [(0, .ref o), (1, .int v1), (2, .int v2)] → va_S (va_A (ww_Fm_isBarred g o o_conversion o_flags o_precision o_index o_width o_text_v o_place_v o_after_v (.ref o_flags) (.ref o_width) (.ref o_precision) (.ref o_conversion) (.ref o_index) o_directives o_present o_at o_conversion_c o_flags_c o_precision_c o_index_c o_width_c) s.heap.size) s.heap H locs → va_P D vwC (ww_Fm_isBarred g o o_conversion o_flags o_precision o_index o_width o_text_v o_place_v o_after_v (.ref o_flags) (.ref o_width) (.ref o_precision) (.ref o_conversion) (.ref o_index) o_directives o_present o_at o_conversion_c o_flags_c o_precision_c o_index_c o_width_c) H → va_D (va_A (ww_Fm_isBarred g o o_conversion o_flags o_precision o_index o_width o_text_v o_place_v o_after_v (.ref o_flags) (.ref o_width) (.ref o_precision) (.ref o_conversion) (.ref o_index) o_directives o_present o_at o_conversion_c o_flags_c o_precision_c o_index_c o_width_c) s.heap.size) (ww_Fm_isBarred g o o_conversion o_flags o_precision o_index o_width o_text_v o_place_v o_after_v (.ref o_flags) (.ref o_width) (.ref o_precision) (.ref o_conversion) (.ref o_index) o_directives o_present o_at o_conversion_c o_flags_c o_precision_c o_index_c o_width_c) → (f_Fm_isBarred_100 v1 v2 o_conversion_c o_flags_c o_precision_c o_index_c o_width_c) = some r → W p l e ({ frames := 5, cells := 0, slots := 0, locals := 112 } : Room) s m ([.ref o, .int a1] : List Value).toArray below meth c H locs 0 0 (MQ below (gx_Qi D (ww_Fm_isBarred g o o_conversion o_flags o_precision o_index o_width o_text_v o_place_v o_after_v (.ref o_flags) (.ref o_width) (.ref o_precision) (.ref o_conversion) (.ref o_index) o_directives o_present o_at o_conversion_c o_flags_c o_precision_c o_index_c o_width_c) (ww_Fm_isBarred g o o_conversion o_flags o_precision o_index o_width o_text_v o_place_v o_after_v (.ref o_flags) (.ref o_width) (.ref o_precision) (.ref o_conversion) (.ref o_index) o_directives o_present o_at o_conversion_c o_flags_c o_precision_c o_index_c o_width_c) r s.heap.size) ([.ref o, .int a1] : List Value).toArray s 0 0 (va_A (ww_Fm_isBarred g o o_conversion o_flags o_precision o_index o_width o_text_v o_place_v o_after_v (.ref o_flags) (.ref o_width) (.ref o_precision) (.ref o_conversion) (.ref o_index) o_directives o_present o_at o_conversion_c o_flags_c o_precision_c o_index_c o_width_c) s.heap.size)) (F0 m 100 ls []) := by
    intro v1 v2 ls H locs hl hS hP hD hf
    have hf : (if v2 = (110 : Int32) then (if gx_ok v1 500 = true then if (o_width_c v1.toNatClampNeg) = (-1 : Int32) then (f_Fm_isBarred_118 v1 o_conversion_c o_flags_c o_precision_c o_index_c o_width_c) else (some (1 : Int32)) else none) else (f_Fm_isBarred_118 v1 o_conversion_c o_flags_c o_precision_c o_index_c o_width_c)) = some r := hf
    refine lv_iload_n S.1 S.2.1 d_Fm_isBarred_100 rfl (lv_at hl 2 rfl) ?_
    refine lv_bipush (v := 110) S.1 S.2.1 d_Fm_isBarred_101 (by decide) ?_
    refine lv_icmp_ne (tgt := 118) S.1 S.2.1 d_Fm_isBarred_103 (by decide) (fun h => ?_) (fun h => ?_)
    ·
      have hf := gx_ifn h hf
      exact c_118 v1 ls _ _ (lv_sub hl [0, 1] rfl) hS hP hD hf
    ·
      have hf := gx_ifp h hf
      refine lv_aload_n S.1 S.2.1 d_Fm_isBarred_106 rfl (lv_at hl 0 rfl) ?_
      refine gx_gf (v := .ref o_width) S E hP 0 rfl rfl i_Fm 4 rfl wd_268 ⟨rfl, rfl, rfl⟩ rfl d_Fm_isBarred_107 ?_
      refine lv_iload_n S.1 S.2.1 d_Fm_isBarred_110 rfl (lv_at hl 1 rfl) ?_
      obtain ⟨hin, hf⟩ := gx_chk hf
      refine va_iald S.1 S.2.1 E.1.1 hP 5 0 rfl rfl (gx_okv hin) d_Fm_isBarred_111 ?_
      refine lv_iconst (v := (-1)) S.1 S.2.1 d_Fm_isBarred_112 (by decide) ?_
      refine lv_icmp_eq (tgt := 118) S.1 S.2.1 d_Fm_isBarred_113 (by decide) (fun h => ?_) (fun h => ?_)
      ·
        have hf := gx_ifp h hf
        exact c_118 v1 ls _ _ (lv_sub hl [0, 1] rfl) hS hP hD hf
      ·
        have hf := gx_ifn h hf
        refine lv_iconst (v := 1) S.1 S.2.1 d_Fm_isBarred_116 (by decide) ?_
        obtain rfl := Option.some.inj hf
        exact gx_rz S hr gx_n1 hlk hS hP hD d_Fm_isBarred_117
  have c_79 : ∀ (v1 : Int32) (v2 : Int32) (ls : Array Slot) (H : Heap) (locs : List Loc), lv_has ls 3 [(0, .ref o), (1, .int v1), (2, .int v2)] → va_S (va_A (ww_Fm_isBarred g o o_conversion o_flags o_precision o_index o_width o_text_v o_place_v o_after_v (.ref o_flags) (.ref o_width) (.ref o_precision) (.ref o_conversion) (.ref o_index) o_directives o_present o_at o_conversion_c o_flags_c o_precision_c o_index_c o_width_c) s.heap.size) s.heap H locs → va_P D vwC (ww_Fm_isBarred g o o_conversion o_flags o_precision o_index o_width o_text_v o_place_v o_after_v (.ref o_flags) (.ref o_width) (.ref o_precision) (.ref o_conversion) (.ref o_index) o_directives o_present o_at o_conversion_c o_flags_c o_precision_c o_index_c o_width_c) H → va_D (va_A (ww_Fm_isBarred g o o_conversion o_flags o_precision o_index o_width o_text_v o_place_v o_after_v (.ref o_flags) (.ref o_width) (.ref o_precision) (.ref o_conversion) (.ref o_index) o_directives o_present o_at o_conversion_c o_flags_c o_precision_c o_index_c o_width_c) s.heap.size) (ww_Fm_isBarred g o o_conversion o_flags o_precision o_index o_width o_text_v o_place_v o_after_v (.ref o_flags) (.ref o_width) (.ref o_precision) (.ref o_conversion) (.ref o_index) o_directives o_present o_at o_conversion_c o_flags_c o_precision_c o_index_c o_width_c) → (f_Fm_isBarred_79 v1 v2 o_conversion_c o_flags_c o_precision_c o_index_c o_width_c) = some r → W p l e ({ frames := 5, cells := 0, slots := 0, locals := 112 } : Room) s m ([.ref o, .int a1] : List Value).toArray below meth c H locs 0 0 (MQ below (gx_Qi D (ww_Fm_isBarred g o o_conversion o_flags o_precision o_index o_width o_text_v o_place_v o_after_v (.ref o_flags) (.ref o_width) (.ref o_precision) (.ref o_conversion) (.ref o_index) o_directives o_present o_at o_conversion_c o_flags_c o_precision_c o_index_c o_width_c) (ww_Fm_isBarred g o o_conversion o_flags o_precision o_index o_width o_text_v o_place_v o_after_v (.ref o_flags) (.ref o_width) (.ref o_precision) (.ref o_conversion) (.ref o_index) o_directives o_present o_at o_conversion_c o_flags_c o_precision_c o_index_c o_width_c) r s.heap.size) ([.ref o, .int a1] : List Value).toArray s 0 0 (va_A (ww_Fm_isBarred g o o_conversion o_flags o_precision o_index o_width o_text_v o_place_v o_after_v (.ref o_flags) (.ref o_width) (.ref o_precision) (.ref o_conversion) (.ref o_index) o_directives o_present o_at o_conversion_c o_flags_c o_precision_c o_index_c o_width_c) s.heap.size)) (F0 m 79 ls []) := by
    intro v1 v2 ls H locs hl hS hP hD hf
    have hf : (if gx_ok v1 500 = true then if (o_precision_c v1.toNatClampNeg) = (-1 : Int32) then (f_Fm_isBarred_100 v1 v2 o_conversion_c o_flags_c o_precision_c o_index_c o_width_c) else ((f_Fm_has 33 v2).bind fun u92 => if u92 = 0 then (f_Fm_isBarred_100 v1 v2 o_conversion_c o_flags_c o_precision_c o_index_c o_width_c) else (some (1 : Int32))) else none) = some r := hf
    refine lv_aload_n S.1 S.2.1 d_Fm_isBarred_79 rfl (lv_at hl 0 rfl) ?_
    refine gx_gf (v := .ref o_precision) S E hP 0 rfl rfl i_Fm 5 rfl wd_270 ⟨rfl, rfl, rfl⟩ rfl d_Fm_isBarred_80 ?_
    refine lv_iload_n S.1 S.2.1 d_Fm_isBarred_83 rfl (lv_at hl 1 rfl) ?_
    obtain ⟨hin, hf⟩ := gx_chk hf
    refine va_iald S.1 S.2.1 E.1.1 hP 3 0 rfl rfl (gx_okv hin) d_Fm_isBarred_84 ?_
    refine lv_iconst (v := (-1)) S.1 S.2.1 d_Fm_isBarred_85 (by decide) ?_
    refine lv_icmp_eq (tgt := 100) S.1 S.2.1 d_Fm_isBarred_86 (by decide) (fun h => ?_) (fun h => ?_)
    ·
      have hf := gx_ifp h hf
      exact c_100 v1 v2 ls _ _ (lv_sub hl [0, 1, 2] rfl) hS hP hD hf
    ·
      have hf := gx_ifn h hf
      refine va_ldcS S.1 S.2.1 S.2.2.2.1 (sr_33 E) d_Fm_isBarred_89 ?_
      refine lv_iload_n S.1 S.2.1 d_Fm_isBarred_91 rfl (lv_at hl 2 rfl) ?_
      obtain ⟨u92, hc92, hf⟩ := gx_bnd hf
      refine gx_Si (ws2 := (ww_Fm_isBarred g o o_conversion o_flags o_precision o_index o_width o_text_v o_place_v o_after_v (.ref o_flags) (.ref o_width) (.ref o_precision) (.ref o_conversion) (.ref o_index) o_directives o_present o_at o_conversion_c o_flags_c o_precision_c o_index_c o_width_c)) S E hS hP hD (c_Fm_has l z D g 33 v2 u92 hc92) cal_Fm_has wd_1101 wd_1100 rfl [] rfl rfl rfl rfl hl.1 rfl d_Fm_isBarred_92 ⟨Nat.zero_le _, Nat.zero_le _⟩ rfl (fun H locs hS hP hD => ?_)
      refine lv_if_eq (tgt := 100) S.1 S.2.1 d_Fm_isBarred_95 (by decide) (fun h => ?_) (fun h => ?_)
      ·
        have hf := gx_ifp h hf
        exact c_100 v1 v2 ls _ _ (lv_sub hl [0, 1, 2] rfl) hS hP hD hf
      ·
        have hf := gx_ifn h hf
        refine lv_iconst (v := 1) S.1 S.2.1 d_Fm_isBarred_98 (by decide) ?_
        obtain rfl := Option.some.inj hf
        exact gx_rz S hr gx_n1 hlk hS hP hD d_Fm_isBarred_99
  have hf : (if gx_ok a1 500 = true then if gx_ok a1 500 = true then (f_Fm_allowedFlags (o_conversion_c a1.toNatClampNeg)).bind fun u14 => if ((o_flags_c a1.toNatClampNeg) &&& (u14 ^^^ (-1 : Int32))) = 0 then (if gx_ok a1 500 = true then (f_Fm_hasBoth (o_flags_c a1.toNatClampNeg) (17 : Int32)).bind fun u33 => if u33 = 0 then (if gx_ok a1 500 = true then (f_Fm_hasBoth (o_flags_c a1.toNatClampNeg) (12 : Int32)).bind fun u47 => if u47 = 0 then (if gx_ok a1 500 = true then if ((o_flags_c a1.toNatClampNeg) &&& (17 : Int32)) = 0 then (f_Fm_isBarred_79 a1 (o_conversion_c a1.toNatClampNeg) o_conversion_c o_flags_c o_precision_c o_index_c o_width_c) else (if gx_ok a1 500 = true then if (o_width_c a1.toNatClampNeg) = (-1 : Int32) then (some (1 : Int32)) else (f_Fm_isBarred_79 a1 (o_conversion_c a1.toNatClampNeg) o_conversion_c o_flags_c o_precision_c o_index_c o_width_c) else none) else none) else (some (1 : Int32)) else none) else (some (1 : Int32)) else none) else (some (1 : Int32)) else none else none) = some r := hf
  refine lv_aload_n S.1 S.2.1 d_Fm_isBarred_0 rfl (lv_at hl 0 rfl) ?_
  refine gx_gf (v := .ref o_conversion) S E hP 0 rfl rfl i_Fm 6 rfl wd_272 ⟨rfl, rfl, rfl⟩ rfl d_Fm_isBarred_1 ?_
  refine lv_iload_n S.1 S.2.1 d_Fm_isBarred_4 rfl (lv_at hl 1 rfl) ?_
  obtain ⟨hin, hf⟩ := gx_chk hf
  refine va_iald S.1 S.2.1 E.1.1 hP 1 0 rfl rfl (gx_okv hin) d_Fm_isBarred_5 ?_
  refine lv_istore_n (lv' := [(2, .int (o_conversion_c a1.toNatClampNeg)), (0, .ref o), (1, .int a1)]) S.1 S.2.1 d_Fm_isBarred_6 rfl hl (by decide) rfl (fun ls hl => ?_)
  refine lv_aload_n S.1 S.2.1 d_Fm_isBarred_7 rfl (lv_at hl 1 rfl) ?_
  refine gx_gf (v := .ref o_flags) S E hP 0 rfl rfl i_Fm 3 rfl wd_266 ⟨rfl, rfl, rfl⟩ rfl d_Fm_isBarred_8 ?_
  refine lv_iload_n S.1 S.2.1 d_Fm_isBarred_11 rfl (lv_at hl 2 rfl) ?_
  obtain ⟨hin, hf⟩ := gx_chk hf
  refine va_iald S.1 S.2.1 E.1.1 hP 2 0 rfl rfl (gx_okv hin) d_Fm_isBarred_12 ?_
  refine lv_iload_n S.1 S.2.1 d_Fm_isBarred_13 rfl (lv_at hl 0 rfl) ?_
  obtain ⟨u14, hc14, hf⟩ := gx_bnd hf
  refine gx_Si (ws2 := (ww_Fm_isBarred g o o_conversion o_flags o_precision o_index o_width o_text_v o_place_v o_after_v (.ref o_flags) (.ref o_width) (.ref o_precision) (.ref o_conversion) (.ref o_index) o_directives o_present o_at o_conversion_c o_flags_c o_precision_c o_index_c o_width_c)) S E hS hP hD (c_Fm_allowedFlags l z D g (o_conversion_c a1.toNatClampNeg) u14 hc14) cal_Fm_allowedFlags wd_1169 wd_1168 rfl [] rfl rfl rfl rfl hl.1 rfl d_Fm_isBarred_14 ⟨Nat.zero_le _, Nat.zero_le _⟩ rfl (fun H locs hS hP hD => ?_)
  refine lv_iconst (v := (-1)) S.1 S.2.1 d_Fm_isBarred_17 (by decide) ?_
  refine lv_ixor S.1 S.2.1 d_Fm_isBarred_18 ?_
  refine lv_iand S.1 S.2.1 d_Fm_isBarred_19 ?_
  refine lv_if_eq (tgt := 25) S.1 S.2.1 d_Fm_isBarred_20 (by decide) (fun h => ?_) (fun h => ?_)
  ·
    have hf := gx_ifp h hf
    refine lv_aload_n S.1 S.2.1 d_Fm_isBarred_25 rfl (lv_at hl 1 rfl) ?_
    refine gx_gf (v := .ref o_flags) S E hP 0 rfl rfl i_Fm 3 rfl wd_266 ⟨rfl, rfl, rfl⟩ rfl d_Fm_isBarred_26 ?_
    refine lv_iload_n S.1 S.2.1 d_Fm_isBarred_29 rfl (lv_at hl 2 rfl) ?_
    obtain ⟨hin, hf⟩ := gx_chk hf
    refine va_iald S.1 S.2.1 E.1.1 hP 2 0 rfl rfl (gx_okv hin) d_Fm_isBarred_30 ?_
    refine lv_bipush (v := 17) S.1 S.2.1 d_Fm_isBarred_31 (by decide) ?_
    obtain ⟨u33, hc33, hf⟩ := gx_bnd hf
    refine gx_Si (ws2 := (ww_Fm_isBarred g o o_conversion o_flags o_precision o_index o_width o_text_v o_place_v o_after_v (.ref o_flags) (.ref o_width) (.ref o_precision) (.ref o_conversion) (.ref o_index) o_directives o_present o_at o_conversion_c o_flags_c o_precision_c o_index_c o_width_c)) S E hS hP hD (c_Fm_hasBoth l z D g (o_flags_c a1.toNatClampNeg) (17 : Int32) u33 hc33) cal_Fm_hasBoth wd_1172 wd_1171 rfl [] rfl rfl rfl rfl hl.1 rfl d_Fm_isBarred_33 ⟨Nat.zero_le _, Nat.zero_le _⟩ rfl (fun H locs hS hP hD => ?_)
    refine lv_if_ne (tgt := 53) S.1 S.2.1 d_Fm_isBarred_36 (by decide) (fun h => ?_) (fun h => ?_)
    ·
      have hf := gx_ifn h hf
      refine lv_iconst (v := 1) S.1 S.2.1 d_Fm_isBarred_53 (by decide) ?_
      obtain rfl := Option.some.inj hf
      exact gx_rz S hr gx_n1 hlk hS hP hD d_Fm_isBarred_54
    ·
      have hf := gx_ifp h hf
      refine lv_aload_n S.1 S.2.1 d_Fm_isBarred_39 rfl (lv_at hl 1 rfl) ?_
      refine gx_gf (v := .ref o_flags) S E hP 0 rfl rfl i_Fm 3 rfl wd_266 ⟨rfl, rfl, rfl⟩ rfl d_Fm_isBarred_40 ?_
      refine lv_iload_n S.1 S.2.1 d_Fm_isBarred_43 rfl (lv_at hl 2 rfl) ?_
      obtain ⟨hin, hf⟩ := gx_chk hf
      refine va_iald S.1 S.2.1 E.1.1 hP 2 0 rfl rfl (gx_okv hin) d_Fm_isBarred_44 ?_
      refine lv_bipush (v := 12) S.1 S.2.1 d_Fm_isBarred_45 (by decide) ?_
      obtain ⟨u47, hc47, hf⟩ := gx_bnd hf
      refine gx_Si (ws2 := (ww_Fm_isBarred g o o_conversion o_flags o_precision o_index o_width o_text_v o_place_v o_after_v (.ref o_flags) (.ref o_width) (.ref o_precision) (.ref o_conversion) (.ref o_index) o_directives o_present o_at o_conversion_c o_flags_c o_precision_c o_index_c o_width_c)) S E hS hP hD (c_Fm_hasBoth l z D g (o_flags_c a1.toNatClampNeg) (12 : Int32) u47 hc47) cal_Fm_hasBoth wd_1172 wd_1171 rfl [] rfl rfl rfl rfl hl.1 rfl d_Fm_isBarred_47 ⟨Nat.zero_le _, Nat.zero_le _⟩ rfl (fun H locs hS hP hD => ?_)
      refine lv_if_eq (tgt := 55) S.1 S.2.1 d_Fm_isBarred_50 (by decide) (fun h => ?_) (fun h => ?_)
      ·
        have hf := gx_ifp h hf
        refine lv_aload_n S.1 S.2.1 d_Fm_isBarred_55 rfl (lv_at hl 1 rfl) ?_
        refine gx_gf (v := .ref o_flags) S E hP 0 rfl rfl i_Fm 3 rfl wd_266 ⟨rfl, rfl, rfl⟩ rfl d_Fm_isBarred_56 ?_
        refine lv_iload_n S.1 S.2.1 d_Fm_isBarred_59 rfl (lv_at hl 2 rfl) ?_
        obtain ⟨hin, hf⟩ := gx_chk hf
        refine va_iald S.1 S.2.1 E.1.1 hP 2 0 rfl rfl (gx_okv hin) d_Fm_isBarred_60 ?_
        refine lv_bipush (v := 17) S.1 S.2.1 d_Fm_isBarred_61 (by decide) ?_
        refine lv_iand S.1 S.2.1 d_Fm_isBarred_63 ?_
        refine lv_if_eq (tgt := 79) S.1 S.2.1 d_Fm_isBarred_64 (by decide) (fun h => ?_) (fun h => ?_)
        ·
          have hf := gx_ifp h hf
          exact c_79 a1 (o_conversion_c a1.toNatClampNeg) ls _ _ (lv_sub hl [1, 2, 0] rfl) hS hP hD hf
        ·
          have hf := gx_ifn h hf
          refine lv_aload_n S.1 S.2.1 d_Fm_isBarred_67 rfl (lv_at hl 1 rfl) ?_
          refine gx_gf (v := .ref o_width) S E hP 0 rfl rfl i_Fm 4 rfl wd_268 ⟨rfl, rfl, rfl⟩ rfl d_Fm_isBarred_68 ?_
          refine lv_iload_n S.1 S.2.1 d_Fm_isBarred_71 rfl (lv_at hl 2 rfl) ?_
          obtain ⟨hin, hf⟩ := gx_chk hf
          refine va_iald S.1 S.2.1 E.1.1 hP 5 0 rfl rfl (gx_okv hin) d_Fm_isBarred_72 ?_
          refine lv_iconst (v := (-1)) S.1 S.2.1 d_Fm_isBarred_73 (by decide) ?_
          refine lv_icmp_ne (tgt := 79) S.1 S.2.1 d_Fm_isBarred_74 (by decide) (fun h => ?_) (fun h => ?_)
          ·
            have hf := gx_ifn h hf
            exact c_79 a1 (o_conversion_c a1.toNatClampNeg) ls _ _ (lv_sub hl [1, 2, 0] rfl) hS hP hD hf
          ·
            have hf := gx_ifp h hf
            refine lv_iconst (v := 1) S.1 S.2.1 d_Fm_isBarred_77 (by decide) ?_
            obtain rfl := Option.some.inj hf
            exact gx_rz S hr gx_n1 hlk hS hP hD d_Fm_isBarred_78
      ·
        have hf := gx_ifn h hf
        refine lv_iconst (v := 1) S.1 S.2.1 d_Fm_isBarred_53 (by decide) ?_
        obtain rfl := Option.some.inj hf
        exact gx_rz S hr gx_n1 hlk hS hP hD d_Fm_isBarred_54
  ·
    have hf := gx_ifn h hf
    refine lv_iconst (v := 1) S.1 S.2.1 d_Fm_isBarred_23 (by decide) ?_
    obtain rfl := Option.some.inj hf
    exact gx_rz S hr gx_n1 hlk hS hP hD d_Fm_isBarred_24
theorem d_Fm_firstBarred_0 : decode b_Fm_firstBarred 0 = .ok (.iconst 0, 1) := by decide +kernel
theorem d_Fm_firstBarred_1 : decode b_Fm_firstBarred 1 = .ok (.istore_n 1, 1) := by decide +kernel
theorem d_Fm_firstBarred_2 : decode b_Fm_firstBarred 2 = .ok (.iload_n 1, 1) := by decide +kernel
theorem d_Fm_firstBarred_3 : decode b_Fm_firstBarred 3 = .ok (.aload_n 0, 1) := by decide +kernel
theorem d_Fm_firstBarred_4 : decode b_Fm_firstBarred 4 = .ok (.getfield 42, 3) := by decide +kernel
theorem d_Fm_firstBarred_7 : decode b_Fm_firstBarred 7 = .ok (.if_icmp .ge 24, 3) := by decide +kernel
theorem d_Fm_firstBarred_10 : decode b_Fm_firstBarred 10 = .ok (.aload_n 0, 1) := by decide +kernel
theorem d_Fm_firstBarred_11 : decode b_Fm_firstBarred 11 = .ok (.iload_n 1, 1) := by decide +kernel
theorem d_Fm_firstBarred_12 : decode b_Fm_firstBarred 12 = .ok (.invokevirtual 95, 3) := by decide +kernel
theorem d_Fm_firstBarred_15 : decode b_Fm_firstBarred 15 = .ok (.ifCond .eq 10, 3) := by decide +kernel
theorem d_Fm_firstBarred_18 : decode b_Fm_firstBarred 18 = .ok (.aload_n 0, 1) := by decide +kernel
theorem d_Fm_firstBarred_19 : decode b_Fm_firstBarred 19 = .ok (.getfield 20, 3) := by decide +kernel
theorem d_Fm_firstBarred_22 : decode b_Fm_firstBarred 22 = .ok (.iload_n 1, 1) := by decide +kernel
theorem d_Fm_firstBarred_23 : decode b_Fm_firstBarred 23 = .ok (.iaload, 1) := by decide +kernel
theorem d_Fm_firstBarred_24 : decode b_Fm_firstBarred 24 = .ok (.ireturn, 1) := by decide +kernel
theorem d_Fm_firstBarred_25 : decode b_Fm_firstBarred 25 = .ok (.iinc 1 1, 3) := by decide +kernel
theorem d_Fm_firstBarred_28 : decode b_Fm_firstBarred 28 = .ok (.goto (-26), 3) := by decide +kernel
theorem d_Fm_firstBarred_31 : decode b_Fm_firstBarred 31 = .ok (.iconst (-1), 1) := by decide +kernel
theorem d_Fm_firstBarred_32 : decode b_Fm_firstBarred 32 = .ok (.ireturn, 1) := by decide +kernel
theorem cal_Fm_firstBarred : gx_cal y_Fm_firstBarred b_Fm_firstBarred 2 (some .int) 0 := ⟨wd_1163, wd_11, by decide +kernel⟩
def ww_Fm_firstBarred (g : Nat → ClassId) (o : Nat) (o_conversion : Nat) (o_flags : Nat) (o_precision : Nat) (o_index : Nat) (o_width : Nat) (o_place : Nat) (x_o_text : Value) (x_o_place : Value) (x_o_after : Value) (x_o_flags : Value) (x_o_width : Value) (x_o_precision : Value) (x_o_conversion : Value) (x_o_index : Value) (x_o_directives : Int32) (x_o_present : Int32) (x_o_at : Int32) (y_o_conversion : Nat → Int32) (y_o_flags : Nat → Int32) (y_o_precision : Nat → Int32) (y_o_index : Nat → Int32) (y_o_width : Nat → Int32) (y_o_place : Nat → Int32) : va_W := [(o, .inr (5, [x_o_text, x_o_place, x_o_after, x_o_flags, x_o_width, x_o_precision, x_o_conversion, x_o_index, .int x_o_directives, .int x_o_present, .int x_o_at])), (o_conversion, .inl (g 0, 500, .inl y_o_conversion)), (o_flags, .inl (g 0, 500, .inl y_o_flags)), (o_precision, .inl (g 0, 500, .inl y_o_precision)), (o_index, .inl (g 0, 500, .inl y_o_index)), (o_width, .inl (g 0, 500, .inl y_o_width)), (o_place, .inl (g 0, 500, .inl y_o_place))]
def f_Fm_firstBarred_2 : Nat → Int32 → Int32 → (Nat → Int32) → (Nat → Int32) → (Nat → Int32) → (Nat → Int32) → (Nat → Int32) → (Nat → Int32) → Option (Int32)
  | 0, _, _, _, _, _, _, _, _ => none
  | n + 1, v1, o_directives, o_conversion_c, o_flags_c, o_precision_c, o_index_c, o_width_c, o_place_c => if o_directives ≤ v1 then (some (-1 : Int32)) else ((f_Fm_isBarred v1 o_conversion_c o_flags_c o_precision_c o_index_c o_width_c).bind fun u12 => if u12 = 0 then (f_Fm_firstBarred_2 n (v1 + 1) o_directives o_conversion_c o_flags_c o_precision_c o_index_c o_width_c o_place_c) else (if gx_ok v1 500 = true then some (o_place_c v1.toNatClampNeg) else none))
def f_Fm_firstBarred (o_directives : Int32) (o_conversion_c : Nat → Int32) (o_flags_c : Nat → Int32) (o_precision_c : Nat → Int32) (o_index_c : Nat → Int32) (o_width_c : Nat → Int32) (o_place_c : Nat → Int32) : Option (Int32) := f_Fm_firstBarred_2 gx_fu (0 : Int32) o_directives o_conversion_c o_flags_c o_precision_c o_index_c o_width_c o_place_c
set_option maxHeartbeats 4000000 in
set_option maxRecDepth 100000 in
theorem c_Fm_firstBarred (l : Launch) (z : State) (D : va_G) (g : Nat → ClassId) (o : Nat) (o_conversion : Nat) (o_flags : Nat) (o_precision : Nat) (o_index : Nat) (o_width : Nat) (o_place : Nat) (o_text_v : Value) (o_after_v : Value) (o_directives : Int32) (o_present : Int32) (o_at : Int32) (o_conversion_c : Nat → Int32) (o_flags_c : Nat → Int32) (o_precision_c : Nat → Int32) (o_index_c : Nat → Int32) (o_width_c : Nat → Int32) (o_place_c : Nat → Int32) (r : Int32) (hf : f_Fm_firstBarred o_directives o_conversion_c o_flags_c o_precision_c o_index_c o_width_c o_place_c = some r) : gx_Mi l z D g y_Fm_firstBarred b_Fm_firstBarred 2 .int ({ frames := 6, cells := 0, slots := 0, locals := 134 } : Room) [.ref o] (ww_Fm_firstBarred g o o_conversion o_flags o_precision o_index o_width o_place o_text_v (.ref o_place) o_after_v (.ref o_flags) (.ref o_width) (.ref o_precision) (.ref o_conversion) (.ref o_index) o_directives o_present o_at o_conversion_c o_flags_c o_precision_c o_index_c o_width_c o_place_c) (ww_Fm_firstBarred g o o_conversion o_flags o_precision o_index o_width o_place o_text_v (.ref o_place) o_after_v (.ref o_flags) (.ref o_width) (.ref o_precision) (.ref o_conversion) (.ref o_index) o_directives o_present o_at o_conversion_c o_flags_c o_precision_c o_index_c o_width_c o_place_c) r := by
  refine gx_go (by decide +kernel) rfl ?_
  intro p e s m below meth c ls S hr hlk hnm E hP hD hl
  have hS : va_S (va_A (ww_Fm_firstBarred g o o_conversion o_flags o_precision o_index o_width o_place o_text_v (.ref o_place) o_after_v (.ref o_flags) (.ref o_width) (.ref o_precision) (.ref o_conversion) (.ref o_index) o_directives o_present o_at o_conversion_c o_flags_c o_precision_c o_index_c o_width_c o_place_c) s.heap.size) s.heap s.heap [] := va_S.rf
  have hl : lv_has ls 2 [(0, .ref o)] := hl
  have c_2 : ∀ n : Nat, ∀ (v1 : Int32) (ls : Array Slot) (H : Heap) (locs : List Loc), lv_has ls 2 [(0, .ref o), (1, .int v1)] → va_S (va_A (ww_Fm_firstBarred g o o_conversion o_flags o_precision o_index o_width o_place o_text_v (.ref o_place) o_after_v (.ref o_flags) (.ref o_width) (.ref o_precision) (.ref o_conversion) (.ref o_index) o_directives o_present o_at o_conversion_c o_flags_c o_precision_c o_index_c o_width_c o_place_c) s.heap.size) s.heap H locs → va_P D vwC (ww_Fm_firstBarred g o o_conversion o_flags o_precision o_index o_width o_place o_text_v (.ref o_place) o_after_v (.ref o_flags) (.ref o_width) (.ref o_precision) (.ref o_conversion) (.ref o_index) o_directives o_present o_at o_conversion_c o_flags_c o_precision_c o_index_c o_width_c o_place_c) H → va_D (va_A (ww_Fm_firstBarred g o o_conversion o_flags o_precision o_index o_width o_place o_text_v (.ref o_place) o_after_v (.ref o_flags) (.ref o_width) (.ref o_precision) (.ref o_conversion) (.ref o_index) o_directives o_present o_at o_conversion_c o_flags_c o_precision_c o_index_c o_width_c o_place_c) s.heap.size) (ww_Fm_firstBarred g o o_conversion o_flags o_precision o_index o_width o_place o_text_v (.ref o_place) o_after_v (.ref o_flags) (.ref o_width) (.ref o_precision) (.ref o_conversion) (.ref o_index) o_directives o_present o_at o_conversion_c o_flags_c o_precision_c o_index_c o_width_c o_place_c) → (f_Fm_firstBarred_2 n v1 o_directives o_conversion_c o_flags_c o_precision_c o_index_c o_width_c o_place_c) = some r → W p l e ({ frames := 6, cells := 0, slots := 0, locals := 134 } : Room) s m ([.ref o] : List Value).toArray below meth c H locs 0 0 (MQ below (gx_Qi D (ww_Fm_firstBarred g o o_conversion o_flags o_precision o_index o_width o_place o_text_v (.ref o_place) o_after_v (.ref o_flags) (.ref o_width) (.ref o_precision) (.ref o_conversion) (.ref o_index) o_directives o_present o_at o_conversion_c o_flags_c o_precision_c o_index_c o_width_c o_place_c) (ww_Fm_firstBarred g o o_conversion o_flags o_precision o_index o_width o_place o_text_v (.ref o_place) o_after_v (.ref o_flags) (.ref o_width) (.ref o_precision) (.ref o_conversion) (.ref o_index) o_directives o_present o_at o_conversion_c o_flags_c o_precision_c o_index_c o_width_c o_place_c) r s.heap.size) ([.ref o] : List Value).toArray s 0 0 (va_A (ww_Fm_firstBarred g o o_conversion o_flags o_precision o_index o_width o_place o_text_v (.ref o_place) o_after_v (.ref o_flags) (.ref o_width) (.ref o_precision) (.ref o_conversion) (.ref o_index) o_directives o_present o_at o_conversion_c o_flags_c o_precision_c o_index_c o_width_c o_place_c) s.heap.size)) (F0 m 2 ls []) := by
    intro n
    induction n with
    | zero => intro v1 ls H locs hl hS hP hD hf; cases hf
    | succ n ih =>
      intro v1 ls H locs hl hS hP hD hf
      have hf : (if o_directives ≤ v1 then (some (-1 : Int32)) else ((f_Fm_isBarred v1 o_conversion_c o_flags_c o_precision_c o_index_c o_width_c).bind fun u12 => if u12 = 0 then (f_Fm_firstBarred_2 n (v1 + 1) o_directives o_conversion_c o_flags_c o_precision_c o_index_c o_width_c o_place_c) else (if gx_ok v1 500 = true then some (o_place_c v1.toNatClampNeg) else none))) = some r := hf
      refine lv_iload_n S.1 S.2.1 d_Fm_firstBarred_2 rfl (lv_at hl 1 rfl) ?_
      refine lv_aload_n S.1 S.2.1 d_Fm_firstBarred_3 rfl (lv_at hl 0 rfl) ?_
      refine gx_gf (v := .int o_directives) S E hP 0 rfl rfl i_Fm 8 rfl wd_276 ⟨rfl, rfl, rfl⟩ rfl d_Fm_firstBarred_4 ?_
      refine lv_icmp_ge (tgt := 31) S.1 S.2.1 d_Fm_firstBarred_7 (by decide) (fun h => ?_) (fun h => ?_)
      ·
        have hf := gx_ifp h hf
        refine lv_iconst (v := (-1)) S.1 S.2.1 d_Fm_firstBarred_31 (by decide) ?_
        obtain rfl := Option.some.inj hf
        exact gx_ri S hr hlk hS hP hD d_Fm_firstBarred_32
      ·
        have hf := gx_ifn h hf
        refine lv_aload_n S.1 S.2.1 d_Fm_firstBarred_10 rfl (lv_at hl 0 rfl) ?_
        refine lv_iload_n S.1 S.2.1 d_Fm_firstBarred_11 rfl (lv_at hl 1 rfl) ?_
        obtain ⟨u12, hc12, hf⟩ := gx_bnd hf
        refine gx_Vi (ws2 := (ww_Fm_firstBarred g o o_conversion o_flags o_precision o_index o_width o_place o_text_v (.ref o_place) o_after_v (.ref o_flags) (.ref o_width) (.ref o_precision) (.ref o_conversion) (.ref o_index) o_directives o_present o_at o_conversion_c o_flags_c o_precision_c o_index_c o_width_c o_place_c)) S E hS hP hD (c_Fm_isBarred l z D g o o_conversion o_flags o_precision o_index o_width o_text_v (.ref o_place) o_after_v o_directives o_present o_at o_conversion_c o_flags_c o_precision_c o_index_c o_width_c v1 u12 hc12) cal_Fm_isBarred wd_1166 ws_44 wd_1164 rfl [0, 1, 2, 3, 4, 5] rfl rfl rfl (gx_rc E hP 0 rfl rfl) rfl hl.1 rfl d_Fm_firstBarred_12 ⟨Nat.zero_le _, Nat.zero_le _⟩ rfl (fun H locs hS hP hD => ?_)
        refine lv_if_eq (tgt := 25) S.1 S.2.1 d_Fm_firstBarred_15 (by decide) (fun h => ?_) (fun h => ?_)
        ·
          have hf := gx_ifp h hf
          refine lv_iinc (v := v1 + 1) (lv' := [(1, .int (v1 + 1)), (0, .ref o)]) S.1 S.2.1 d_Fm_firstBarred_25 hl (k := 1) rfl rfl (by decide) rfl (fun ls hl => ?_)
          refine lv_goto (tgt := 2) S.1 S.2.1 d_Fm_firstBarred_28 (by decide) ?_
          exact ih (v1 + 1) ls _ _ (lv_sub hl [1, 0] rfl) hS hP hD hf
        ·
          have hf := gx_ifn h hf
          refine lv_aload_n S.1 S.2.1 d_Fm_firstBarred_18 rfl (lv_at hl 0 rfl) ?_
          refine gx_gf (v := .ref o_place) S E hP 0 rfl rfl i_Fm 1 rfl wd_262 ⟨rfl, rfl, rfl⟩ rfl d_Fm_firstBarred_19 ?_
          refine lv_iload_n S.1 S.2.1 d_Fm_firstBarred_22 rfl (lv_at hl 1 rfl) ?_
          obtain ⟨hin, hf⟩ := gx_chk hf
          refine va_iald S.1 S.2.1 E.1.1 hP 6 0 rfl rfl (gx_okv hin) d_Fm_firstBarred_23 ?_
          obtain rfl := Option.some.inj hf
          exact gx_ri S hr hlk hS hP hD d_Fm_firstBarred_24
  have hf : (f_Fm_firstBarred_2 gx_fu (0 : Int32) o_directives o_conversion_c o_flags_c o_precision_c o_index_c o_width_c o_place_c) = some r := hf
  refine lv_iconst (v := 0) S.1 S.2.1 d_Fm_firstBarred_0 (by decide) ?_
  refine lv_istore_n (lv' := [(1, .int (0 : Int32)), (0, .ref o)]) S.1 S.2.1 d_Fm_firstBarred_1 rfl hl (by decide) rfl (fun ls hl => ?_)
  exact c_2 gx_fu (0 : Int32) ls _ _ (lv_sub hl [1, 0] rfl) hS hP hD hf
theorem d_Fm_numberArguments_0 : decode b_Fm_numberArguments 0 = .ok (.iconst 0, 1) := by decide +kernel
theorem d_Fm_numberArguments_1 : decode b_Fm_numberArguments 1 = .ok (.istore_n 1, 1) := by decide +kernel
theorem d_Fm_numberArguments_2 : decode b_Fm_numberArguments 2 = .ok (.iconst (-1), 1) := by decide +kernel
theorem d_Fm_numberArguments_3 : decode b_Fm_numberArguments 3 = .ok (.istore_n 2, 1) := by decide +kernel
theorem d_Fm_numberArguments_4 : decode b_Fm_numberArguments 4 = .ok (.iconst 0, 1) := by decide +kernel
theorem d_Fm_numberArguments_5 : decode b_Fm_numberArguments 5 = .ok (.istore_n 3, 1) := by decide +kernel
theorem d_Fm_numberArguments_6 : decode b_Fm_numberArguments 6 = .ok (.iload_n 3, 1) := by decide +kernel
theorem d_Fm_numberArguments_7 : decode b_Fm_numberArguments 7 = .ok (.aload_n 0, 1) := by decide +kernel
theorem d_Fm_numberArguments_8 : decode b_Fm_numberArguments 8 = .ok (.getfield 42, 3) := by decide +kernel
theorem d_Fm_numberArguments_11 : decode b_Fm_numberArguments 11 = .ok (.if_icmp .ge 60, 3) := by decide +kernel
theorem d_Fm_numberArguments_14 : decode b_Fm_numberArguments 14 = .ok (.aload_n 0, 1) := by decide +kernel
theorem d_Fm_numberArguments_15 : decode b_Fm_numberArguments 15 = .ok (.iload_n 3, 1) := by decide +kernel
theorem d_Fm_numberArguments_16 : decode b_Fm_numberArguments 16 = .ok (.invokevirtual 107, 3) := by decide +kernel
theorem d_Fm_numberArguments_19 : decode b_Fm_numberArguments 19 = .ok (.ifCond .eq 46, 3) := by decide +kernel
theorem d_Fm_numberArguments_22 : decode b_Fm_numberArguments 22 = .ok (.aload_n 0, 1) := by decide +kernel
theorem d_Fm_numberArguments_23 : decode b_Fm_numberArguments 23 = .ok (.getfield 39, 3) := by decide +kernel
theorem d_Fm_numberArguments_26 : decode b_Fm_numberArguments 26 = .ok (.iload_n 3, 1) := by decide +kernel
theorem d_Fm_numberArguments_27 : decode b_Fm_numberArguments 27 = .ok (.iaload, 1) := by decide +kernel
theorem d_Fm_numberArguments_28 : decode b_Fm_numberArguments 28 = .ok (.ifCond .ne 11, 3) := by decide +kernel
theorem d_Fm_numberArguments_31 : decode b_Fm_numberArguments 31 = .ok (.iload_n 1, 1) := by decide +kernel
theorem d_Fm_numberArguments_32 : decode b_Fm_numberArguments 32 = .ok (.istore_n 2, 1) := by decide +kernel
theorem d_Fm_numberArguments_33 : decode b_Fm_numberArguments 33 = .ok (.iinc 1 1, 3) := by decide +kernel
theorem d_Fm_numberArguments_36 : decode b_Fm_numberArguments 36 = .ok (.goto 22, 3) := by decide +kernel
theorem d_Fm_numberArguments_39 : decode b_Fm_numberArguments 39 = .ok (.aload_n 0, 1) := by decide +kernel
theorem d_Fm_numberArguments_40 : decode b_Fm_numberArguments 40 = .ok (.getfield 39, 3) := by decide +kernel
theorem d_Fm_numberArguments_43 : decode b_Fm_numberArguments 43 = .ok (.iload_n 3, 1) := by decide +kernel
theorem d_Fm_numberArguments_44 : decode b_Fm_numberArguments 44 = .ok (.iaload, 1) := by decide +kernel
theorem d_Fm_numberArguments_45 : decode b_Fm_numberArguments 45 = .ok (.iconst (-1), 1) := by decide +kernel
theorem d_Fm_numberArguments_46 : decode b_Fm_numberArguments 46 = .ok (.if_icmp .eq 12, 3) := by decide +kernel
theorem d_Fm_numberArguments_49 : decode b_Fm_numberArguments 49 = .ok (.aload_n 0, 1) := by decide +kernel
theorem d_Fm_numberArguments_50 : decode b_Fm_numberArguments 50 = .ok (.getfield 39, 3) := by decide +kernel
theorem d_Fm_numberArguments_53 : decode b_Fm_numberArguments 53 = .ok (.iload_n 3, 1) := by decide +kernel
theorem d_Fm_numberArguments_54 : decode b_Fm_numberArguments 54 = .ok (.iaload, 1) := by decide +kernel
theorem d_Fm_numberArguments_55 : decode b_Fm_numberArguments 55 = .ok (.iconst 1, 1) := by decide +kernel
theorem d_Fm_numberArguments_56 : decode b_Fm_numberArguments 56 = .ok (.isub, 1) := by decide +kernel
theorem d_Fm_numberArguments_57 : decode b_Fm_numberArguments 57 = .ok (.istore_n 2, 1) := by decide +kernel
theorem d_Fm_numberArguments_58 : decode b_Fm_numberArguments 58 = .ok (.aload_n 0, 1) := by decide +kernel
theorem d_Fm_numberArguments_59 : decode b_Fm_numberArguments 59 = .ok (.getfield 39, 3) := by decide +kernel
theorem d_Fm_numberArguments_62 : decode b_Fm_numberArguments 62 = .ok (.iload_n 3, 1) := by decide +kernel
theorem d_Fm_numberArguments_63 : decode b_Fm_numberArguments 63 = .ok (.iload_n 2, 1) := by decide +kernel
theorem d_Fm_numberArguments_64 : decode b_Fm_numberArguments 64 = .ok (.iastore, 1) := by decide +kernel
theorem d_Fm_numberArguments_65 : decode b_Fm_numberArguments 65 = .ok (.iinc 3 1, 3) := by decide +kernel
theorem d_Fm_numberArguments_68 : decode b_Fm_numberArguments 68 = .ok (.goto (-62), 3) := by decide +kernel
theorem d_Fm_numberArguments_71 : decode b_Fm_numberArguments 71 = .ok (.return_, 1) := by decide +kernel
theorem cal_Fm_numberArguments : gx_cal y_Fm_numberArguments b_Fm_numberArguments 4 none 0 := ⟨wd_1198, wd_11, by decide +kernel⟩
def ww_Fm_numberArguments (g : Nat → ClassId) (o : Nat) (o_conversion : Nat) (o_index : Nat) (x_o_text : Value) (x_o_place : Value) (x_o_after : Value) (x_o_flags : Value) (x_o_width : Value) (x_o_precision : Value) (x_o_conversion : Value) (x_o_index : Value) (x_o_directives : Int32) (x_o_present : Int32) (x_o_at : Int32) (y_o_conversion : Nat → Int32) (y_o_index : Nat → Int32) : va_W := [(o, .inr (5, [x_o_text, x_o_place, x_o_after, x_o_flags, x_o_width, x_o_precision, x_o_conversion, x_o_index, .int x_o_directives, .int x_o_present, .int x_o_at])), (o_conversion, .inl (g 0, 500, .inl y_o_conversion)), (o_index, .inl (g 0, 500, .inl y_o_index))]
def f_Fm_numberArguments_65 (k6 : Int32 → Int32 → Int32 → Int32 → (Nat → Int32) → (Nat → Int32) → Option ((Nat → Int32))) (v1 : Int32) (v2 : Int32) (v3 : Int32) (o_directives : Int32) (o_conversion_c : Nat → Int32) (o_index_cq : Nat → Int32) : Option ((Nat → Int32)) := k6 v1 v2 (v3 + 1) o_directives o_conversion_c o_index_cq
def f_Fm_numberArguments_58 (k6 : Int32 → Int32 → Int32 → Int32 → (Nat → Int32) → (Nat → Int32) → Option ((Nat → Int32))) (v1 : Int32) (v2 : Int32) (v3 : Int32) (o_directives : Int32) (o_conversion_c : Nat → Int32) (o_index_cq : Nat → Int32) : Option ((Nat → Int32)) := if gx_ok v3 500 = true then f_Fm_numberArguments_65 k6 v1 v2 v3 o_directives o_conversion_c (upd o_index_cq v3.toNatClampNeg v2) else none
def f_Fm_numberArguments_6 : Nat → Int32 → Int32 → Int32 → Int32 → (Nat → Int32) → (Nat → Int32) → Option ((Nat → Int32))
  | 0, _, _, _, _, _, _ => none
  | n + 1, v1, v2, v3, o_directives, o_conversion_c, o_index_cq => if o_directives ≤ v3 then (some o_index_cq) else ((f_Fm_takesArgument v3 o_conversion_c).bind fun u16 => if u16 = 0 then (f_Fm_numberArguments_65 (fun v1 v2 v3 o_directives o_conversion_c o_index_cq => f_Fm_numberArguments_6 n v1 v2 v3 o_directives o_conversion_c o_index_cq) v1 v2 v3 o_directives o_conversion_c o_index_cq) else (if gx_ok v3 500 = true then if (o_index_cq v3.toNatClampNeg) = 0 then (f_Fm_numberArguments_58 (fun v1 v2 v3 o_directives o_conversion_c o_index_cq => f_Fm_numberArguments_6 n v1 v2 v3 o_directives o_conversion_c o_index_cq) (v1 + 1) v1 v3 o_directives o_conversion_c o_index_cq) else (if gx_ok v3 500 = true then if (o_index_cq v3.toNatClampNeg) = (-1 : Int32) then (f_Fm_numberArguments_58 (fun v1 v2 v3 o_directives o_conversion_c o_index_cq => f_Fm_numberArguments_6 n v1 v2 v3 o_directives o_conversion_c o_index_cq) v1 v2 v3 o_directives o_conversion_c o_index_cq) else (if gx_ok v3 500 = true then f_Fm_numberArguments_58 (fun v1 v2 v3 o_directives o_conversion_c o_index_cq => f_Fm_numberArguments_6 n v1 v2 v3 o_directives o_conversion_c o_index_cq) v1 ((o_index_cq v3.toNatClampNeg) - (1 : Int32)) v3 o_directives o_conversion_c o_index_cq else none) else none) else none))
def f_Fm_numberArguments (o_directives : Int32) (o_conversion_c : Nat → Int32) (o_index_c : Nat → Int32) : Option ((Nat → Int32)) := f_Fm_numberArguments_6 gx_fu (0 : Int32) (-1 : Int32) (0 : Int32) o_directives o_conversion_c o_index_c
set_option maxHeartbeats 4000000 in
set_option maxRecDepth 100000 in
theorem c_Fm_numberArguments (l : Launch) (z : State) (D : va_G) (g : Nat → ClassId) (o : Nat) (o_conversion : Nat) (o_index : Nat) (o_text_v : Value) (o_place_v : Value) (o_after_v : Value) (o_flags_v : Value) (o_width_v : Value) (o_precision_v : Value) (o_directives : Int32) (o_present : Int32) (o_at : Int32) (o_conversion_c : Nat → Int32) (o_index_c : Nat → Int32) (r : (Nat → Int32)) (hf : f_Fm_numberArguments o_directives o_conversion_c o_index_c = some r) : gx_Mv l z D g y_Fm_numberArguments b_Fm_numberArguments 4 ({ frames := 1, cells := 0, slots := 0, locals := 21 } : Room) [.ref o] (ww_Fm_numberArguments g o o_conversion o_index o_text_v o_place_v o_after_v o_flags_v o_width_v o_precision_v (.ref o_conversion) (.ref o_index) o_directives o_present o_at o_conversion_c o_index_c) (ww_Fm_numberArguments g o o_conversion o_index o_text_v o_place_v o_after_v o_flags_v o_width_v o_precision_v (.ref o_conversion) (.ref o_index) o_directives o_present o_at o_conversion_c r) := by
  refine gx_go (by decide +kernel) rfl ?_
  intro p e s m below meth c ls S hr hlk hnm E hP hD hl
  have hS : va_S (va_A (ww_Fm_numberArguments g o o_conversion o_index o_text_v o_place_v o_after_v o_flags_v o_width_v o_precision_v (.ref o_conversion) (.ref o_index) o_directives o_present o_at o_conversion_c o_index_c) s.heap.size) s.heap s.heap [] := va_S.rf
  have hl : lv_has ls 4 [(0, .ref o)] := hl
  have c_65 : ∀ (k6 : Int32 → Int32 → Int32 → Int32 → (Nat → Int32) → (Nat → Int32) → Option ((Nat → Int32))) (hk6 : ∀ (v1 : Int32) (v2 : Int32) (v3 : Int32) (o_index_cq : Nat → Int32) (ls : Array Slot) (H : Heap) (locs : List Loc), lv_has ls 4 [(0, .ref o), (1, .int v1), (2, .int v2), (3, .int v3)] → va_S (va_A (ww_Fm_numberArguments g o o_conversion o_index o_text_v o_place_v o_after_v o_flags_v o_width_v o_precision_v (.ref o_conversion) (.ref o_index) o_directives o_present o_at o_conversion_c o_index_c) s.heap.size) s.heap H locs → va_P D vwC (ww_Fm_numberArguments g o o_conversion o_index o_text_v o_place_v o_after_v o_flags_v o_width_v o_precision_v (.ref o_conversion) (.ref o_index) o_directives o_present o_at o_conversion_c o_index_cq) H → va_D (va_A (ww_Fm_numberArguments g o o_conversion o_index o_text_v o_place_v o_after_v o_flags_v o_width_v o_precision_v (.ref o_conversion) (.ref o_index) o_directives o_present o_at o_conversion_c o_index_c) s.heap.size) (ww_Fm_numberArguments g o o_conversion o_index o_text_v o_place_v o_after_v o_flags_v o_width_v o_precision_v (.ref o_conversion) (.ref o_index) o_directives o_present o_at o_conversion_c o_index_cq) → (k6 v1 v2 v3 o_directives o_conversion_c o_index_cq) = some r → W p l e ({ frames := 1, cells := 0, slots := 0, locals := 21 } : Room) s m ([.ref o] : List Value).toArray below meth c H locs 0 0 (MQ below (gx_Qv D (ww_Fm_numberArguments g o o_conversion o_index o_text_v o_place_v o_after_v o_flags_v o_width_v o_precision_v (.ref o_conversion) (.ref o_index) o_directives o_present o_at o_conversion_c o_index_c) (ww_Fm_numberArguments g o o_conversion o_index o_text_v o_place_v o_after_v o_flags_v o_width_v o_precision_v (.ref o_conversion) (.ref o_index) o_directives o_present o_at o_conversion_c r) s.heap.size) ([.ref o] : List Value).toArray s 0 0 (va_A (ww_Fm_numberArguments g o o_conversion o_index o_text_v o_place_v o_after_v o_flags_v o_width_v o_precision_v (.ref o_conversion) (.ref o_index) o_directives o_present o_at o_conversion_c o_index_c) s.heap.size)) (F0 m 6 ls [])), ∀ (v1 : Int32) (v2 : Int32) (v3 : Int32) (o_index_cq : Nat → Int32) (ls : Array Slot) (H : Heap) (locs : List Loc), lv_has ls 4 [(0, .ref o), (1, .int v1), (2, .int v2), (3, .int v3)] → va_S (va_A (ww_Fm_numberArguments g o o_conversion o_index o_text_v o_place_v o_after_v o_flags_v o_width_v o_precision_v (.ref o_conversion) (.ref o_index) o_directives o_present o_at o_conversion_c o_index_c) s.heap.size) s.heap H locs → va_P D vwC (ww_Fm_numberArguments g o o_conversion o_index o_text_v o_place_v o_after_v o_flags_v o_width_v o_precision_v (.ref o_conversion) (.ref o_index) o_directives o_present o_at o_conversion_c o_index_cq) H → va_D (va_A (ww_Fm_numberArguments g o o_conversion o_index o_text_v o_place_v o_after_v o_flags_v o_width_v o_precision_v (.ref o_conversion) (.ref o_index) o_directives o_present o_at o_conversion_c o_index_c) s.heap.size) (ww_Fm_numberArguments g o o_conversion o_index o_text_v o_place_v o_after_v o_flags_v o_width_v o_precision_v (.ref o_conversion) (.ref o_index) o_directives o_present o_at o_conversion_c o_index_cq) → (f_Fm_numberArguments_65 k6 v1 v2 v3 o_directives o_conversion_c o_index_cq) = some r → W p l e ({ frames := 1, cells := 0, slots := 0, locals := 21 } : Room) s m ([.ref o] : List Value).toArray below meth c H locs 0 0 (MQ below (gx_Qv D (ww_Fm_numberArguments g o o_conversion o_index o_text_v o_place_v o_after_v o_flags_v o_width_v o_precision_v (.ref o_conversion) (.ref o_index) o_directives o_present o_at o_conversion_c o_index_c) (ww_Fm_numberArguments g o o_conversion o_index o_text_v o_place_v o_after_v o_flags_v o_width_v o_precision_v (.ref o_conversion) (.ref o_index) o_directives o_present o_at o_conversion_c r) s.heap.size) ([.ref o] : List Value).toArray s 0 0 (va_A (ww_Fm_numberArguments g o o_conversion o_index o_text_v o_place_v o_after_v o_flags_v o_width_v o_precision_v (.ref o_conversion) (.ref o_index) o_directives o_present o_at o_conversion_c o_index_c) s.heap.size)) (F0 m 65 ls []) := by
    intro k6 hk6
    intro v1 v2 v3 o_index_cq ls H locs hl hS hP hD hf
    have hf : (k6 v1 v2 (v3 + 1) o_directives o_conversion_c o_index_cq) = some r := hf
    refine lv_iinc (v := v3 + 1) (lv' := [(3, .int (v3 + 1)), (0, .ref o), (1, .int v1), (2, .int v2)]) S.1 S.2.1 d_Fm_numberArguments_65 hl (k := 3) rfl rfl (by decide) rfl (fun ls hl => ?_)
    refine lv_goto (tgt := 6) S.1 S.2.1 d_Fm_numberArguments_68 (by decide) ?_
    exact hk6 v1 v2 (v3 + 1) o_index_cq ls _ _ (lv_sub hl [1, 2, 3, 0] rfl) hS hP hD hf
  have c_58 : ∀ (k6 : Int32 → Int32 → Int32 → Int32 → (Nat → Int32) → (Nat → Int32) → Option ((Nat → Int32))) (hk6 : ∀ (v1 : Int32) (v2 : Int32) (v3 : Int32) (o_index_cq : Nat → Int32) (ls : Array Slot) (H : Heap) (locs : List Loc), lv_has ls 4 [(0, .ref o), (1, .int v1), (2, .int v2), (3, .int v3)] → va_S (va_A (ww_Fm_numberArguments g o o_conversion o_index o_text_v o_place_v o_after_v o_flags_v o_width_v o_precision_v (.ref o_conversion) (.ref o_index) o_directives o_present o_at o_conversion_c o_index_c) s.heap.size) s.heap H locs → va_P D vwC (ww_Fm_numberArguments g o o_conversion o_index o_text_v o_place_v o_after_v o_flags_v o_width_v o_precision_v (.ref o_conversion) (.ref o_index) o_directives o_present o_at o_conversion_c o_index_cq) H → va_D (va_A (ww_Fm_numberArguments g o o_conversion o_index o_text_v o_place_v o_after_v o_flags_v o_width_v o_precision_v (.ref o_conversion) (.ref o_index) o_directives o_present o_at o_conversion_c o_index_c) s.heap.size) (ww_Fm_numberArguments g o o_conversion o_index o_text_v o_place_v o_after_v o_flags_v o_width_v o_precision_v (.ref o_conversion) (.ref o_index) o_directives o_present o_at o_conversion_c o_index_cq) → (k6 v1 v2 v3 o_directives o_conversion_c o_index_cq) = some r → W p l e ({ frames := 1, cells := 0, slots := 0, locals := 21 } : Room) s m ([.ref o] : List Value).toArray below meth c H locs 0 0 (MQ below (gx_Qv D (ww_Fm_numberArguments g o o_conversion o_index o_text_v o_place_v o_after_v o_flags_v o_width_v o_precision_v (.ref o_conversion) (.ref o_index) o_directives o_present o_at o_conversion_c o_index_c) (ww_Fm_numberArguments g o o_conversion o_index o_text_v o_place_v o_after_v o_flags_v o_width_v o_precision_v (.ref o_conversion) (.ref o_index) o_directives o_present o_at o_conversion_c r) s.heap.size) ([.ref o] : List Value).toArray s 0 0 (va_A (ww_Fm_numberArguments g o o_conversion o_index o_text_v o_place_v o_after_v o_flags_v o_width_v o_precision_v (.ref o_conversion) (.ref o_index) o_directives o_present o_at o_conversion_c o_index_c) s.heap.size)) (F0 m 6 ls [])), ∀ (v1 : Int32) (v2 : Int32) (v3 : Int32) (o_index_cq : Nat → Int32) (ls : Array Slot) (H : Heap) (locs : List Loc), lv_has ls 4 [(0, .ref o), (1, .int v1), (2, .int v2), (3, .int v3)] → va_S (va_A (ww_Fm_numberArguments g o o_conversion o_index o_text_v o_place_v o_after_v o_flags_v o_width_v o_precision_v (.ref o_conversion) (.ref o_index) o_directives o_present o_at o_conversion_c o_index_c) s.heap.size) s.heap H locs → va_P D vwC (ww_Fm_numberArguments g o o_conversion o_index o_text_v o_place_v o_after_v o_flags_v o_width_v o_precision_v (.ref o_conversion) (.ref o_index) o_directives o_present o_at o_conversion_c o_index_cq) H → va_D (va_A (ww_Fm_numberArguments g o o_conversion o_index o_text_v o_place_v o_after_v o_flags_v o_width_v o_precision_v (.ref o_conversion) (.ref o_index) o_directives o_present o_at o_conversion_c o_index_c) s.heap.size) (ww_Fm_numberArguments g o o_conversion o_index o_text_v o_place_v o_after_v o_flags_v o_width_v o_precision_v (.ref o_conversion) (.ref o_index) o_directives o_present o_at o_conversion_c o_index_cq) → (f_Fm_numberArguments_58 k6 v1 v2 v3 o_directives o_conversion_c o_index_cq) = some r → W p l e ({ frames := 1, cells := 0, slots := 0, locals := 21 } : Room) s m ([.ref o] : List Value).toArray below meth c H locs 0 0 (MQ below (gx_Qv D (ww_Fm_numberArguments g o o_conversion o_index o_text_v o_place_v o_after_v o_flags_v o_width_v o_precision_v (.ref o_conversion) (.ref o_index) o_directives o_present o_at o_conversion_c o_index_c) (ww_Fm_numberArguments g o o_conversion o_index o_text_v o_place_v o_after_v o_flags_v o_width_v o_precision_v (.ref o_conversion) (.ref o_index) o_directives o_present o_at o_conversion_c r) s.heap.size) ([.ref o] : List Value).toArray s 0 0 (va_A (ww_Fm_numberArguments g o o_conversion o_index o_text_v o_place_v o_after_v o_flags_v o_width_v o_precision_v (.ref o_conversion) (.ref o_index) o_directives o_present o_at o_conversion_c o_index_c) s.heap.size)) (F0 m 58 ls []) := by
    intro k6 hk6
    intro v1 v2 v3 o_index_cq ls H locs hl hS hP hD hf
    have hf : (if gx_ok v3 500 = true then f_Fm_numberArguments_65 k6 v1 v2 v3 o_directives o_conversion_c (upd o_index_cq v3.toNatClampNeg v2) else none) = some r := hf
    refine lv_aload_n S.1 S.2.1 d_Fm_numberArguments_58 rfl (lv_at hl 0 rfl) ?_
    refine gx_gf (v := .ref o_index) S E hP 0 rfl rfl i_Fm 7 rfl wd_274 ⟨rfl, rfl, rfl⟩ rfl d_Fm_numberArguments_59 ?_
    refine lv_iload_n S.1 S.2.1 d_Fm_numberArguments_62 rfl (lv_at hl 3 rfl) ?_
    refine lv_iload_n S.1 S.2.1 d_Fm_numberArguments_63 rfl (lv_at hl 2 rfl) ?_
    obtain ⟨hin, hf⟩ := gx_chk hf
    refine gx_iast (ws2 := (ww_Fm_numberArguments g o o_conversion o_index o_text_v o_place_v o_after_v o_flags_v o_width_v o_precision_v (.ref o_conversion) (.ref o_index) o_directives o_present o_at o_conversion_c (upd o_index_cq v3.toNatClampNeg v2))) S E hS hP hD 2 0 rfl rfl hin d_Fm_numberArguments_64 rfl (fun H locs hS hP hD => ?_)
    exact c_65 k6 hk6 v1 v2 v3 (upd o_index_cq v3.toNatClampNeg v2) ls _ _ (lv_sub hl [0, 1, 2, 3] rfl) hS hP hD hf
  have c_6 : ∀ n : Nat, ∀ (v1 : Int32) (v2 : Int32) (v3 : Int32) (o_index_cq : Nat → Int32) (ls : Array Slot) (H : Heap) (locs : List Loc), lv_has ls 4 [(0, .ref o), (1, .int v1), (2, .int v2), (3, .int v3)] → va_S (va_A (ww_Fm_numberArguments g o o_conversion o_index o_text_v o_place_v o_after_v o_flags_v o_width_v o_precision_v (.ref o_conversion) (.ref o_index) o_directives o_present o_at o_conversion_c o_index_c) s.heap.size) s.heap H locs → va_P D vwC (ww_Fm_numberArguments g o o_conversion o_index o_text_v o_place_v o_after_v o_flags_v o_width_v o_precision_v (.ref o_conversion) (.ref o_index) o_directives o_present o_at o_conversion_c o_index_cq) H → va_D (va_A (ww_Fm_numberArguments g o o_conversion o_index o_text_v o_place_v o_after_v o_flags_v o_width_v o_precision_v (.ref o_conversion) (.ref o_index) o_directives o_present o_at o_conversion_c o_index_c) s.heap.size) (ww_Fm_numberArguments g o o_conversion o_index o_text_v o_place_v o_after_v o_flags_v o_width_v o_precision_v (.ref o_conversion) (.ref o_index) o_directives o_present o_at o_conversion_c o_index_cq) → (f_Fm_numberArguments_6 n v1 v2 v3 o_directives o_conversion_c o_index_cq) = some r → W p l e ({ frames := 1, cells := 0, slots := 0, locals := 21 } : Room) s m ([.ref o] : List Value).toArray below meth c H locs 0 0 (MQ below (gx_Qv D (ww_Fm_numberArguments g o o_conversion o_index o_text_v o_place_v o_after_v o_flags_v o_width_v o_precision_v (.ref o_conversion) (.ref o_index) o_directives o_present o_at o_conversion_c o_index_c) (ww_Fm_numberArguments g o o_conversion o_index o_text_v o_place_v o_after_v o_flags_v o_width_v o_precision_v (.ref o_conversion) (.ref o_index) o_directives o_present o_at o_conversion_c r) s.heap.size) ([.ref o] : List Value).toArray s 0 0 (va_A (ww_Fm_numberArguments g o o_conversion o_index o_text_v o_place_v o_after_v o_flags_v o_width_v o_precision_v (.ref o_conversion) (.ref o_index) o_directives o_present o_at o_conversion_c o_index_c) s.heap.size)) (F0 m 6 ls []) := by
    intro n
    induction n with
    | zero => intro v1 v2 v3 o_index_cq ls H locs hl hS hP hD hf; cases hf
    | succ n ih =>
      intro v1 v2 v3 o_index_cq ls H locs hl hS hP hD hf
      have hf : (if o_directives ≤ v3 then (some o_index_cq) else ((f_Fm_takesArgument v3 o_conversion_c).bind fun u16 => if u16 = 0 then (f_Fm_numberArguments_65 (fun v1 v2 v3 o_directives o_conversion_c o_index_cq => f_Fm_numberArguments_6 n v1 v2 v3 o_directives o_conversion_c o_index_cq) v1 v2 v3 o_directives o_conversion_c o_index_cq) else (if gx_ok v3 500 = true then if (o_index_cq v3.toNatClampNeg) = 0 then (f_Fm_numberArguments_58 (fun v1 v2 v3 o_directives o_conversion_c o_index_cq => f_Fm_numberArguments_6 n v1 v2 v3 o_directives o_conversion_c o_index_cq) (v1 + 1) v1 v3 o_directives o_conversion_c o_index_cq) else (if gx_ok v3 500 = true then if (o_index_cq v3.toNatClampNeg) = (-1 : Int32) then (f_Fm_numberArguments_58 (fun v1 v2 v3 o_directives o_conversion_c o_index_cq => f_Fm_numberArguments_6 n v1 v2 v3 o_directives o_conversion_c o_index_cq) v1 v2 v3 o_directives o_conversion_c o_index_cq) else (if gx_ok v3 500 = true then f_Fm_numberArguments_58 (fun v1 v2 v3 o_directives o_conversion_c o_index_cq => f_Fm_numberArguments_6 n v1 v2 v3 o_directives o_conversion_c o_index_cq) v1 ((o_index_cq v3.toNatClampNeg) - (1 : Int32)) v3 o_directives o_conversion_c o_index_cq else none) else none) else none))) = some r := hf
      refine lv_iload_n S.1 S.2.1 d_Fm_numberArguments_6 rfl (lv_at hl 3 rfl) ?_
      refine lv_aload_n S.1 S.2.1 d_Fm_numberArguments_7 rfl (lv_at hl 0 rfl) ?_
      refine gx_gf (v := .int o_directives) S E hP 0 rfl rfl i_Fm 8 rfl wd_276 ⟨rfl, rfl, rfl⟩ rfl d_Fm_numberArguments_8 ?_
      refine lv_icmp_ge (tgt := 71) S.1 S.2.1 d_Fm_numberArguments_11 (by decide) (fun h => ?_) (fun h => ?_)
      ·
        have hf := gx_ifp h hf
        obtain rfl := Option.some.inj hf
        exact gx_rv S hr hlk hS hP hD d_Fm_numberArguments_71
      ·
        have hf := gx_ifn h hf
        refine lv_aload_n S.1 S.2.1 d_Fm_numberArguments_14 rfl (lv_at hl 0 rfl) ?_
        refine lv_iload_n S.1 S.2.1 d_Fm_numberArguments_15 rfl (lv_at hl 3 rfl) ?_
        obtain ⟨u16, hc16, hf⟩ := gx_bnd hf
        refine gx_Vi (ws2 := (ww_Fm_numberArguments g o o_conversion o_index o_text_v o_place_v o_after_v o_flags_v o_width_v o_precision_v (.ref o_conversion) (.ref o_index) o_directives o_present o_at o_conversion_c o_index_cq)) S E hS hP hD (c_Fm_takesArgument l z D g o o_conversion o_text_v o_place_v o_after_v o_flags_v o_width_v o_precision_v (.ref o_index) o_directives o_present o_at o_conversion_c v3 u16 hc16) cal_Fm_takesArgument wd_1177 ws_45 wd_1175 rfl [0, 1] rfl rfl rfl (gx_rc E hP 0 rfl rfl) rfl hl.1 rfl d_Fm_numberArguments_16 ⟨Nat.zero_le _, Nat.zero_le _⟩ rfl (fun H locs hS hP hD => ?_)
        refine lv_if_eq (tgt := 65) S.1 S.2.1 d_Fm_numberArguments_19 (by decide) (fun h => ?_) (fun h => ?_)
        ·
          have hf := gx_ifp h hf
          exact c_65 (fun v1 v2 v3 o_directives o_conversion_c o_index_cq => f_Fm_numberArguments_6 n v1 v2 v3 o_directives o_conversion_c o_index_cq) ih v1 v2 v3 o_index_cq ls _ _ (lv_sub hl [0, 1, 2, 3] rfl) hS hP hD hf
        ·
          have hf := gx_ifn h hf
          refine lv_aload_n S.1 S.2.1 d_Fm_numberArguments_22 rfl (lv_at hl 0 rfl) ?_
          refine gx_gf (v := .ref o_index) S E hP 0 rfl rfl i_Fm 7 rfl wd_274 ⟨rfl, rfl, rfl⟩ rfl d_Fm_numberArguments_23 ?_
          refine lv_iload_n S.1 S.2.1 d_Fm_numberArguments_26 rfl (lv_at hl 3 rfl) ?_
          obtain ⟨hin, hf⟩ := gx_chk hf
          refine va_iald S.1 S.2.1 E.1.1 hP 2 0 rfl rfl (gx_okv hin) d_Fm_numberArguments_27 ?_
          refine lv_if_ne (tgt := 39) S.1 S.2.1 d_Fm_numberArguments_28 (by decide) (fun h => ?_) (fun h => ?_)
          ·
            have hf := gx_ifn h hf
            refine lv_aload_n S.1 S.2.1 d_Fm_numberArguments_39 rfl (lv_at hl 0 rfl) ?_
            refine gx_gf (v := .ref o_index) S E hP 0 rfl rfl i_Fm 7 rfl wd_274 ⟨rfl, rfl, rfl⟩ rfl d_Fm_numberArguments_40 ?_
            refine lv_iload_n S.1 S.2.1 d_Fm_numberArguments_43 rfl (lv_at hl 3 rfl) ?_
            obtain ⟨hin, hf⟩ := gx_chk hf
            refine va_iald S.1 S.2.1 E.1.1 hP 2 0 rfl rfl (gx_okv hin) d_Fm_numberArguments_44 ?_
            refine lv_iconst (v := (-1)) S.1 S.2.1 d_Fm_numberArguments_45 (by decide) ?_
            refine lv_icmp_eq (tgt := 58) S.1 S.2.1 d_Fm_numberArguments_46 (by decide) (fun h => ?_) (fun h => ?_)
            ·
              have hf := gx_ifp h hf
              exact c_58 (fun v1 v2 v3 o_directives o_conversion_c o_index_cq => f_Fm_numberArguments_6 n v1 v2 v3 o_directives o_conversion_c o_index_cq) ih v1 v2 v3 o_index_cq ls _ _ (lv_sub hl [0, 1, 2, 3] rfl) hS hP hD hf
            ·
              have hf := gx_ifn h hf
              refine lv_aload_n S.1 S.2.1 d_Fm_numberArguments_49 rfl (lv_at hl 0 rfl) ?_
              refine gx_gf (v := .ref o_index) S E hP 0 rfl rfl i_Fm 7 rfl wd_274 ⟨rfl, rfl, rfl⟩ rfl d_Fm_numberArguments_50 ?_
              refine lv_iload_n S.1 S.2.1 d_Fm_numberArguments_53 rfl (lv_at hl 3 rfl) ?_
              obtain ⟨hin, hf⟩ := gx_chk hf
              refine va_iald S.1 S.2.1 E.1.1 hP 2 0 rfl rfl (gx_okv hin) d_Fm_numberArguments_54 ?_
              refine lv_iconst (v := 1) S.1 S.2.1 d_Fm_numberArguments_55 (by decide) ?_
              refine lv_isub S.1 S.2.1 d_Fm_numberArguments_56 ?_
              refine lv_istore_n (lv' := [(2, .int ((o_index_cq v3.toNatClampNeg) - (1 : Int32))), (0, .ref o), (1, .int v1), (3, .int v3)]) S.1 S.2.1 d_Fm_numberArguments_57 rfl hl (by decide) rfl (fun ls hl => ?_)
              exact c_58 (fun v1 v2 v3 o_directives o_conversion_c o_index_cq => f_Fm_numberArguments_6 n v1 v2 v3 o_directives o_conversion_c o_index_cq) ih v1 ((o_index_cq v3.toNatClampNeg) - (1 : Int32)) v3 o_index_cq ls _ _ (lv_sub hl [1, 2, 0, 3] rfl) hS hP hD hf
          ·
            have hf := gx_ifp h hf
            refine lv_iload_n S.1 S.2.1 d_Fm_numberArguments_31 rfl (lv_at hl 1 rfl) ?_
            refine lv_istore_n (lv' := [(2, .int v1), (0, .ref o), (1, .int v1), (3, .int v3)]) S.1 S.2.1 d_Fm_numberArguments_32 rfl hl (by decide) rfl (fun ls hl => ?_)
            refine lv_iinc (v := v1 + 1) (lv' := [(1, .int (v1 + 1)), (2, .int v1), (0, .ref o), (3, .int v3)]) S.1 S.2.1 d_Fm_numberArguments_33 hl (k := 2) rfl rfl (by decide) rfl (fun ls hl => ?_)
            refine lv_goto (tgt := 58) S.1 S.2.1 d_Fm_numberArguments_36 (by decide) ?_
            exact c_58 (fun v1 v2 v3 o_directives o_conversion_c o_index_cq => f_Fm_numberArguments_6 n v1 v2 v3 o_directives o_conversion_c o_index_cq) ih (v1 + 1) v1 v3 o_index_cq ls _ _ (lv_sub hl [2, 0, 1, 3] rfl) hS hP hD hf
  have hf : (f_Fm_numberArguments_6 gx_fu (0 : Int32) (-1 : Int32) (0 : Int32) o_directives o_conversion_c o_index_c) = some r := hf
  refine lv_iconst (v := 0) S.1 S.2.1 d_Fm_numberArguments_0 (by decide) ?_
  refine lv_istore_n (lv' := [(1, .int (0 : Int32)), (0, .ref o)]) S.1 S.2.1 d_Fm_numberArguments_1 rfl hl (by decide) rfl (fun ls hl => ?_)
  refine lv_iconst (v := (-1)) S.1 S.2.1 d_Fm_numberArguments_2 (by decide) ?_
  refine lv_istore_n (lv' := [(2, .int (-1 : Int32)), (1, .int (0 : Int32)), (0, .ref o)]) S.1 S.2.1 d_Fm_numberArguments_3 rfl hl (by decide) rfl (fun ls hl => ?_)
  refine lv_iconst (v := 0) S.1 S.2.1 d_Fm_numberArguments_4 (by decide) ?_
  refine lv_istore_n (lv' := [(3, .int (0 : Int32)), (2, .int (-1 : Int32)), (1, .int (0 : Int32)), (0, .ref o)]) S.1 S.2.1 d_Fm_numberArguments_5 rfl hl (by decide) rfl (fun ls hl => ?_)
  exact c_6 gx_fu (0 : Int32) (-1 : Int32) (0 : Int32) o_index_c ls _ _ (lv_sub hl [3, 2, 1, 0] rfl) hS hP hD hf
