theorem d_Sh_writeDecimal_0 : decode b_Sh_writeDecimal 0 = .ok (.aload_n 0, 1) := by decide +kernel
theorem d_Sh_writeDecimal_1 : decode b_Sh_writeDecimal 1 = .ok (.getfield 10, 3) := by decide +kernel
theorem d_Sh_writeDecimal_4 : decode b_Sh_writeDecimal 4 = .ok (.getfield 83, 3) := by decide +kernel
theorem d_Sh_writeDecimal_7 : decode b_Sh_writeDecimal 7 = .ok (.bipush (-2), 2) := by decide +kernel
theorem d_Sh_writeDecimal_9 : decode b_Sh_writeDecimal 9 = .ok (.if_icmp .lt 67, 3) := by decide +kernel
theorem d_Sh_writeDecimal_12 : decode b_Sh_writeDecimal 12 = .ok (.aload_n 0, 1) := by decide +kernel
theorem d_Sh_writeDecimal_13 : decode b_Sh_writeDecimal 13 = .ok (.getfield 10, 3) := by decide +kernel
theorem d_Sh_writeDecimal_16 : decode b_Sh_writeDecimal 16 = .ok (.getfield 83, 3) := by decide +kernel
theorem d_Sh_writeDecimal_19 : decode b_Sh_writeDecimal 19 = .ok (.bipush 7, 2) := by decide +kernel
theorem d_Sh_writeDecimal_21 : decode b_Sh_writeDecimal 21 = .ok (.if_icmp .gt 55, 3) := by decide +kernel
theorem d_Sh_writeDecimal_24 : decode b_Sh_writeDecimal 24 = .ok (.aload_n 0, 1) := by decide +kernel
theorem d_Sh_writeDecimal_25 : decode b_Sh_writeDecimal 25 = .ok (.getfield 10, 3) := by decide +kernel
theorem d_Sh_writeDecimal_28 : decode b_Sh_writeDecimal 28 = .ok (.aload_n 1, 1) := by decide +kernel
theorem d_Sh_writeDecimal_29 : decode b_Sh_writeDecimal 29 = .ok (.iconst 0, 1) := by decide +kernel
theorem d_Sh_writeDecimal_30 : decode b_Sh_writeDecimal 30 = .ok (.invokevirtual 84, 3) := by decide +kernel
theorem d_Sh_writeDecimal_33 : decode b_Sh_writeDecimal 33 = .ok (.aload_n 1, 1) := by decide +kernel
theorem d_Sh_writeDecimal_34 : decode b_Sh_writeDecimal 34 = .ok (.bipush 46, 2) := by decide +kernel
theorem d_Sh_writeDecimal_36 : decode b_Sh_writeDecimal 36 = .ok (.invokevirtual 56, 3) := by decide +kernel
theorem d_Sh_writeDecimal_39 : decode b_Sh_writeDecimal 39 = .ok (.aload_n 0, 1) := by decide +kernel
theorem d_Sh_writeDecimal_40 : decode b_Sh_writeDecimal 40 = .ok (.getfield 10, 3) := by decide +kernel
theorem d_Sh_writeDecimal_43 : decode b_Sh_writeDecimal 43 = .ok (.aload_n 1, 1) := by decide +kernel
theorem d_Sh_writeDecimal_44 : decode b_Sh_writeDecimal 44 = .ok (.aload_n 0, 1) := by decide +kernel
theorem d_Sh_writeDecimal_45 : decode b_Sh_writeDecimal 45 = .ok (.getfield 10, 3) := by decide +kernel
theorem d_Sh_writeDecimal_48 : decode b_Sh_writeDecimal 48 = .ok (.getfield 83, 3) := by decide +kernel
theorem d_Sh_writeDecimal_51 : decode b_Sh_writeDecimal 51 = .ok (.aload_n 0, 1) := by decide +kernel
theorem d_Sh_writeDecimal_52 : decode b_Sh_writeDecimal 52 = .ok (.getfield 10, 3) := by decide +kernel
theorem d_Sh_writeDecimal_55 : decode b_Sh_writeDecimal 55 = .ok (.getfield 88, 3) := by decide +kernel
theorem d_Sh_writeDecimal_58 : decode b_Sh_writeDecimal 58 = .ok (.aload_n 0, 1) := by decide +kernel
theorem d_Sh_writeDecimal_59 : decode b_Sh_writeDecimal 59 = .ok (.getfield 10, 3) := by decide +kernel
theorem d_Sh_writeDecimal_62 : decode b_Sh_writeDecimal 62 = .ok (.getfield 83, 3) := by decide +kernel
theorem d_Sh_writeDecimal_65 : decode b_Sh_writeDecimal 65 = .ok (.isub, 1) := by decide +kernel
theorem d_Sh_writeDecimal_66 : decode b_Sh_writeDecimal 66 = .ok (.iconst 1, 1) := by decide +kernel
theorem d_Sh_writeDecimal_67 : decode b_Sh_writeDecimal 67 = .ok (.invokestatic 91, 3) := by decide +kernel
theorem d_Sh_writeDecimal_70 : decode b_Sh_writeDecimal 70 = .ok (.invokevirtual 97, 3) := by decide +kernel
theorem d_Sh_writeDecimal_73 : decode b_Sh_writeDecimal 73 = .ok (.goto 79, 3) := by decide +kernel
theorem d_Sh_writeDecimal_76 : decode b_Sh_writeDecimal 76 = .ok (.aload_n 0, 1) := by decide +kernel
theorem d_Sh_writeDecimal_77 : decode b_Sh_writeDecimal 77 = .ok (.getfield 10, 3) := by decide +kernel
theorem d_Sh_writeDecimal_80 : decode b_Sh_writeDecimal 80 = .ok (.aload_n 1, 1) := by decide +kernel
theorem d_Sh_writeDecimal_81 : decode b_Sh_writeDecimal 81 = .ok (.iconst 0, 1) := by decide +kernel
theorem d_Sh_writeDecimal_82 : decode b_Sh_writeDecimal 82 = .ok (.iconst 1, 1) := by decide +kernel
theorem d_Sh_writeDecimal_83 : decode b_Sh_writeDecimal 83 = .ok (.invokevirtual 97, 3) := by decide +kernel
theorem d_Sh_writeDecimal_86 : decode b_Sh_writeDecimal 86 = .ok (.aload_n 1, 1) := by decide +kernel
theorem d_Sh_writeDecimal_87 : decode b_Sh_writeDecimal 87 = .ok (.bipush 46, 2) := by decide +kernel
theorem d_Sh_writeDecimal_89 : decode b_Sh_writeDecimal 89 = .ok (.invokevirtual 56, 3) := by decide +kernel
theorem d_Sh_writeDecimal_92 : decode b_Sh_writeDecimal 92 = .ok (.aload_n 0, 1) := by decide +kernel
theorem d_Sh_writeDecimal_93 : decode b_Sh_writeDecimal 93 = .ok (.getfield 10, 3) := by decide +kernel
theorem d_Sh_writeDecimal_96 : decode b_Sh_writeDecimal 96 = .ok (.aload_n 1, 1) := by decide +kernel
theorem d_Sh_writeDecimal_97 : decode b_Sh_writeDecimal 97 = .ok (.iconst 1, 1) := by decide +kernel
theorem d_Sh_writeDecimal_98 : decode b_Sh_writeDecimal 98 = .ok (.aload_n 0, 1) := by decide +kernel
theorem d_Sh_writeDecimal_99 : decode b_Sh_writeDecimal 99 = .ok (.getfield 10, 3) := by decide +kernel
theorem d_Sh_writeDecimal_102 : decode b_Sh_writeDecimal 102 = .ok (.getfield 88, 3) := by decide +kernel
theorem d_Sh_writeDecimal_105 : decode b_Sh_writeDecimal 105 = .ok (.iconst 1, 1) := by decide +kernel
theorem d_Sh_writeDecimal_106 : decode b_Sh_writeDecimal 106 = .ok (.isub, 1) := by decide +kernel
theorem d_Sh_writeDecimal_107 : decode b_Sh_writeDecimal 107 = .ok (.iconst 1, 1) := by decide +kernel
theorem d_Sh_writeDecimal_108 : decode b_Sh_writeDecimal 108 = .ok (.invokestatic 91, 3) := by decide +kernel
theorem d_Sh_writeDecimal_111 : decode b_Sh_writeDecimal 111 = .ok (.invokevirtual 97, 3) := by decide +kernel
theorem d_Sh_writeDecimal_114 : decode b_Sh_writeDecimal 114 = .ok (.aload_n 1, 1) := by decide +kernel
theorem d_Sh_writeDecimal_115 : decode b_Sh_writeDecimal 115 = .ok (.aload_n 0, 1) := by decide +kernel
theorem d_Sh_writeDecimal_116 : decode b_Sh_writeDecimal 116 = .ok (.getfield 10, 3) := by decide +kernel
theorem d_Sh_writeDecimal_119 : decode b_Sh_writeDecimal 119 = .ok (.getfield 83, 3) := by decide +kernel
theorem d_Sh_writeDecimal_122 : decode b_Sh_writeDecimal 122 = .ok (.ifCond .le 8, 3) := by decide +kernel
theorem d_Sh_writeDecimal_125 : decode b_Sh_writeDecimal 125 = .ok (.ldc 101, 2) := by decide +kernel
theorem d_Sh_writeDecimal_127 : decode b_Sh_writeDecimal 127 = .ok (.goto 5, 3) := by decide +kernel
theorem d_Sh_writeDecimal_130 : decode b_Sh_writeDecimal 130 = .ok (.ldc 103, 2) := by decide +kernel
theorem d_Sh_writeDecimal_132 : decode b_Sh_writeDecimal 132 = .ok (.invokevirtual 47, 3) := by decide +kernel
theorem d_Sh_writeDecimal_135 : decode b_Sh_writeDecimal 135 = .ok (.aload_n 1, 1) := by decide +kernel
theorem d_Sh_writeDecimal_136 : decode b_Sh_writeDecimal 136 = .ok (.aload_n 0, 1) := by decide +kernel
theorem d_Sh_writeDecimal_137 : decode b_Sh_writeDecimal 137 = .ok (.getfield 10, 3) := by decide +kernel
theorem d_Sh_writeDecimal_140 : decode b_Sh_writeDecimal 140 = .ok (.getfield 83, 3) := by decide +kernel
theorem d_Sh_writeDecimal_143 : decode b_Sh_writeDecimal 143 = .ok (.iconst 1, 1) := by decide +kernel
theorem d_Sh_writeDecimal_144 : decode b_Sh_writeDecimal 144 = .ok (.isub, 1) := by decide +kernel
theorem d_Sh_writeDecimal_145 : decode b_Sh_writeDecimal 145 = .ok (.invokestatic 105, 3) := by decide +kernel
theorem d_Sh_writeDecimal_148 : decode b_Sh_writeDecimal 148 = .ok (.iconst 1, 1) := by decide +kernel
theorem d_Sh_writeDecimal_149 : decode b_Sh_writeDecimal 149 = .ok (.invokevirtual 109, 3) := by decide +kernel
theorem d_Sh_writeDecimal_152 : decode b_Sh_writeDecimal 152 = .ok (.return_, 1) := by decide +kernel
theorem cal_Sh_writeDecimal : gx_cal y_Sh_writeDecimal b_Sh_writeDecimal 2 none 1 := ⟨wd_590, wd_9, by decide +kernel⟩
def ww_Sh_writeDecimal (g : Nat → ClassId) (o : Nat) (o_decimal : Nat) (a1 : Nat) (a1_row : Nat) (o_decimal_digits : Nat) (x_o_decimal : Value) (x_o_value : Value) (x_o_unit : Value) (x_o_up : Value) (x_o_down : Value) (x_o_rest : Value) (x_o_point : Int32) (x_o_decimal_number : Value) (x_o_decimal_chunks : Value) (x_o_decimal_digits : Value) (x_o_decimal_size : Int32) (x_o_decimal_point : Int32) (x_a1_row : Value) (x_a1_length : Int32) (x_a1_over : Int32) (a1_row_n : Nat) (y_a1_row : Nat → Int32) (y_o_decimal_digits : Nat → Int32) : va_W := [(o, .inr (8, [x_o_decimal, x_o_value, x_o_unit, x_o_up, x_o_down, x_o_rest, .int x_o_point])), (o_decimal, .inr (4, [x_o_decimal_number, x_o_decimal_chunks, x_o_decimal_digits, .int x_o_decimal_size, .int x_o_decimal_point])), (a1, .inr (3, [x_a1_row, .int x_a1_length, .int x_a1_over])), (a1_row, .inl (g 1, a1_row_n, .inl y_a1_row)), (o_decimal_digits, .inl (g 1, 792, .inl y_o_decimal_digits))]
def f_Sh_writeDecimal_132 (t0 : Nat) (a1_row_n : Nat) (o_decimal_point : Int32) (o_decimal_size : Int32) (a1_lengthq : Int32) (a1_overq : Int32) (o_decimal_digits_c : Nat → Int32) (a1_row_cq : Nat → Int32) : Option (Int32 × Int32 × (Nat → Int32)) := (f_By_addString t0 a1_row_n a1_lengthq a1_overq a1_row_cq).bind fun u132 => (f_JMath_abs (o_decimal_point - (1 : Int32))).bind fun u145 => (f_By_addNumber u145 (1 : Int32) a1_row_n u132.1 u132.2.1 u132.2.2).bind fun u149 => some (u149.1, u149.2.1, u149.2.2)
def f_Sh_writeDecimal_76 (a1_row_n : Nat) (o_decimal_point : Int32) (o_decimal_size : Int32) (a1_lengthq : Int32) (a1_overq : Int32) (o_decimal_digits_c : Nat → Int32) (a1_row_cq : Nat → Int32) : Option (Int32 × Int32 × (Nat → Int32)) := (f_Dc_addDigits (0 : Int32) (1 : Int32) a1_row_n o_decimal_size a1_lengthq a1_overq o_decimal_digits_c a1_row_cq).bind fun u83 => (f_By_add (46 : Int32) a1_row_n u83.1 u83.2.1 u83.2.2).bind fun u89 => (f_JMath_max (o_decimal_size - (1 : Int32)) (1 : Int32)).bind fun u108 => (f_Dc_addDigits (1 : Int32) u108 a1_row_n o_decimal_size u89.1 u89.2.1 o_decimal_digits_c u89.2.2).bind fun u111 => if o_decimal_point ≤ 0 then (f_Sh_writeDecimal_132 4 a1_row_n o_decimal_point o_decimal_size u111.1 u111.2.1 o_decimal_digits_c u111.2.2) else (f_Sh_writeDecimal_132 3 a1_row_n o_decimal_point o_decimal_size u111.1 u111.2.1 o_decimal_digits_c u111.2.2)
def f_Sh_writeDecimal (a1_row_n : Nat) (o_decimal_point : Int32) (o_decimal_size : Int32) (a1_length : Int32) (a1_over : Int32) (o_decimal_digits_c : Nat → Int32) (a1_row_c : Nat → Int32) : Option (Int32 × Int32 × (Nat → Int32)) := if o_decimal_point < (-2 : Int32) then (f_Sh_writeDecimal_76 a1_row_n o_decimal_point o_decimal_size a1_length a1_over o_decimal_digits_c a1_row_c) else (if (7 : Int32) < o_decimal_point then (f_Sh_writeDecimal_76 a1_row_n o_decimal_point o_decimal_size a1_length a1_over o_decimal_digits_c a1_row_c) else ((f_Dc_addWhole (0 : Int32) a1_row_n o_decimal_point o_decimal_size o_decimal_digits_c a1_length a1_over a1_row_c).bind fun u30 => (f_By_add (46 : Int32) a1_row_n u30.1 u30.2.1 u30.2.2).bind fun u36 => (f_JMath_max (o_decimal_size - o_decimal_point) (1 : Int32)).bind fun u67 => (f_Dc_addDigits o_decimal_point u67 a1_row_n o_decimal_size u36.1 u36.2.1 o_decimal_digits_c u36.2.2).bind fun u70 => some (u70.1, u70.2.1, u70.2.2)))
set_option maxHeartbeats 4000000 in
set_option maxRecDepth 100000 in
theorem c_Sh_writeDecimal (l : Launch) (z : State) (D : va_G) (g : Nat → ClassId) (o : Nat) (o_decimal : Nat) (a1 : Nat) (a1_row : Nat) (o_decimal_digits : Nat) (o_value_v : Value) (o_unit_v : Value) (o_up_v : Value) (o_down_v : Value) (o_rest_v : Value) (o_point : Int32) (o_decimal_number_v : Value) (o_decimal_chunks_v : Value) (o_decimal_size : Int32) (o_decimal_point : Int32) (a1_length : Int32) (a1_over : Int32) (a1_row_n : Nat) (a1_row_c : Nat → Int32) (o_decimal_digits_c : Nat → Int32) (r : Int32 × Int32 × (Nat → Int32)) (hf : f_Sh_writeDecimal a1_row_n o_decimal_point o_decimal_size a1_length a1_over o_decimal_digits_c a1_row_c = some r) : gx_Mv l z D g y_Sh_writeDecimal b_Sh_writeDecimal 2 ({ frames := 5, cells := 0, slots := 0, locals := 107 } : Room) [.ref o, .ref a1] (ww_Sh_writeDecimal g o o_decimal a1 a1_row o_decimal_digits (.ref o_decimal) o_value_v o_unit_v o_up_v o_down_v o_rest_v o_point o_decimal_number_v o_decimal_chunks_v (.ref o_decimal_digits) o_decimal_size o_decimal_point (.ref a1_row) a1_length a1_over a1_row_n a1_row_c o_decimal_digits_c) (ww_Sh_writeDecimal g o o_decimal a1 a1_row o_decimal_digits (.ref o_decimal) o_value_v o_unit_v o_up_v o_down_v o_rest_v o_point o_decimal_number_v o_decimal_chunks_v (.ref o_decimal_digits) o_decimal_size o_decimal_point (.ref a1_row) r.1 r.2.1 a1_row_n r.2.2 o_decimal_digits_c) := by
  refine gx_go (by decide +kernel) rfl ?_
  intro p e s m below meth c ls S hr hlk hnm E hP hD hl
  have hS : va_S (va_A (ww_Sh_writeDecimal g o o_decimal a1 a1_row o_decimal_digits (.ref o_decimal) o_value_v o_unit_v o_up_v o_down_v o_rest_v o_point o_decimal_number_v o_decimal_chunks_v (.ref o_decimal_digits) o_decimal_size o_decimal_point (.ref a1_row) a1_length a1_over a1_row_n a1_row_c o_decimal_digits_c) s.heap.size) s.heap s.heap [] := va_S.rf
  have hl : lv_has ls 2 [(0, .ref o), (1, .ref a1)] := hl
  have c_132 : ∀ (t0 : Nat) (a1_lengthq : Int32) (a1_overq : Int32) (a1_row_cq : Nat → Int32) (ls : Array Slot) (H : Heap) (locs : List Loc), lv_has ls 2 [(0, .ref o), (1, .ref a1)] → va_S (va_A (ww_Sh_writeDecimal g o o_decimal a1 a1_row o_decimal_digits (.ref o_decimal) o_value_v o_unit_v o_up_v o_down_v o_rest_v o_point o_decimal_number_v o_decimal_chunks_v (.ref o_decimal_digits) o_decimal_size o_decimal_point (.ref a1_row) a1_length a1_over a1_row_n a1_row_c o_decimal_digits_c) s.heap.size) s.heap H locs → va_P D vwC (ww_Sh_writeDecimal g o o_decimal a1 a1_row o_decimal_digits (.ref o_decimal) o_value_v o_unit_v o_up_v o_down_v o_rest_v o_point o_decimal_number_v o_decimal_chunks_v (.ref o_decimal_digits) o_decimal_size o_decimal_point (.ref a1_row) a1_lengthq a1_overq a1_row_n a1_row_cq o_decimal_digits_c) H → va_D (va_A (ww_Sh_writeDecimal g o o_decimal a1 a1_row o_decimal_digits (.ref o_decimal) o_value_v o_unit_v o_up_v o_down_v o_rest_v o_point o_decimal_number_v o_decimal_chunks_v (.ref o_decimal_digits) o_decimal_size o_decimal_point (.ref a1_row) a1_length a1_over a1_row_n a1_row_c o_decimal_digits_c) s.heap.size) (ww_Sh_writeDecimal g o o_decimal a1 a1_row o_decimal_digits (.ref o_decimal) o_value_v o_unit_v o_up_v o_down_v o_rest_v o_point o_decimal_number_v o_decimal_chunks_v (.ref o_decimal_digits) o_decimal_size o_decimal_point (.ref a1_row) a1_lengthq a1_overq a1_row_n a1_row_cq o_decimal_digits_c) → (f_Sh_writeDecimal_132 t0 a1_row_n o_decimal_point o_decimal_size a1_lengthq a1_overq o_decimal_digits_c a1_row_cq) = some r → W p l e ({ frames := 5, cells := 0, slots := 0, locals := 107 } : Room) s m ([.ref o, .ref a1] : List Value).toArray below meth c H locs 0 0 (MQ below (gx_Qv D (ww_Sh_writeDecimal g o o_decimal a1 a1_row o_decimal_digits (.ref o_decimal) o_value_v o_unit_v o_up_v o_down_v o_rest_v o_point o_decimal_number_v o_decimal_chunks_v (.ref o_decimal_digits) o_decimal_size o_decimal_point (.ref a1_row) a1_length a1_over a1_row_n a1_row_c o_decimal_digits_c) (ww_Sh_writeDecimal g o o_decimal a1 a1_row o_decimal_digits (.ref o_decimal) o_value_v o_unit_v o_up_v o_down_v o_rest_v o_point o_decimal_number_v o_decimal_chunks_v (.ref o_decimal_digits) o_decimal_size o_decimal_point (.ref a1_row) r.1 r.2.1 a1_row_n r.2.2 o_decimal_digits_c) s.heap.size) ([.ref o, .ref a1] : List Value).toArray s 0 0 (va_A (ww_Sh_writeDecimal g o o_decimal a1 a1_row o_decimal_digits (.ref o_decimal) o_value_v o_unit_v o_up_v o_down_v o_rest_v o_point o_decimal_number_v o_decimal_chunks_v (.ref o_decimal_digits) o_decimal_size o_decimal_point (.ref a1_row) a1_length a1_over a1_row_n a1_row_c o_decimal_digits_c) s.heap.size)) (F0 m 132 ls [.ref (g (100 + t0)), .ref a1]) := by
    intro t0 a1_lengthq a1_overq a1_row_cq ls H locs hl hS hP hD hf
    have hf : ((f_By_addString t0 a1_row_n a1_lengthq a1_overq a1_row_cq).bind fun u132 => (f_JMath_abs (o_decimal_point - (1 : Int32))).bind fun u145 => (f_By_addNumber u145 (1 : Int32) a1_row_n u132.1 u132.2.1 u132.2.2).bind fun u149 => some (u149.1, u149.2.1, u149.2.2)) = some r := hf
    obtain ⟨u132, hc132, hf⟩ := gx_bnd hf
    refine gx_Vv (ws2 := (ww_Sh_writeDecimal g o o_decimal a1 a1_row o_decimal_digits (.ref o_decimal) o_value_v o_unit_v o_up_v o_down_v o_rest_v o_point o_decimal_number_v o_decimal_chunks_v (.ref o_decimal_digits) o_decimal_size o_decimal_point (.ref a1_row) u132.1 u132.2.1 a1_row_n u132.2.2 o_decimal_digits_c)) S E hS hP hD (c_By_addString l z D g a1 a1_row a1_lengthq a1_overq a1_row_n a1_row_cq t0 u132 hc132) cal_By_addString wd_427 wd_428 wd_426 rfl [2, 3] rfl rfl rfl (gx_rc E hP 2 rfl rfl) rfl hl.1 rfl d_Sh_writeDecimal_132 ⟨Nat.zero_le _, Nat.zero_le _⟩ rfl (fun H locs hS hP hD => ?_)
    refine lv_aload_n S.1 S.2.1 d_Sh_writeDecimal_135 rfl (lv_at hl 1 rfl) ?_
    refine lv_aload_n S.1 S.2.1 d_Sh_writeDecimal_136 rfl (lv_at hl 0 rfl) ?_
    refine gx_gf (v := .ref o_decimal) S E hP 0 rfl rfl i_Sh 0 rfl wd_229 ⟨rfl, rfl, rfl⟩ rfl d_Sh_writeDecimal_137 ?_
    refine gx_gf (v := .int o_decimal_point) S E hP 1 rfl rfl i_Dc 4 rfl wd_214 ⟨rfl, rfl, rfl⟩ rfl d_Sh_writeDecimal_140 ?_
    refine lv_iconst (v := 1) S.1 S.2.1 d_Sh_writeDecimal_143 (by decide) ?_
    refine lv_isub S.1 S.2.1 d_Sh_writeDecimal_144 ?_
    obtain ⟨u145, hc145, hf⟩ := gx_bnd hf
    refine gx_Si (ws2 := (ww_Sh_writeDecimal g o o_decimal a1 a1_row o_decimal_digits (.ref o_decimal) o_value_v o_unit_v o_up_v o_down_v o_rest_v o_point o_decimal_number_v o_decimal_chunks_v (.ref o_decimal_digits) o_decimal_size o_decimal_point (.ref a1_row) u132.1 u132.2.1 a1_row_n u132.2.2 o_decimal_digits_c)) S E hS hP hD (c_JMath_abs l z D g (o_decimal_point - (1 : Int32)) u145 hc145) cal_JMath_abs wd_613 wd_612 rfl [] rfl rfl rfl rfl hl.1 rfl d_Sh_writeDecimal_145 ⟨Nat.zero_le _, Nat.zero_le _⟩ rfl (fun H locs hS hP hD => ?_)
    refine lv_iconst (v := 1) S.1 S.2.1 d_Sh_writeDecimal_148 (by decide) ?_
    obtain ⟨u149, hc149, hf⟩ := gx_bnd hf
    refine gx_Vv (ws2 := (ww_Sh_writeDecimal g o o_decimal a1 a1_row o_decimal_digits (.ref o_decimal) o_value_v o_unit_v o_up_v o_down_v o_rest_v o_point o_decimal_number_v o_decimal_chunks_v (.ref o_decimal_digits) o_decimal_size o_decimal_point (.ref a1_row) u149.1 u149.2.1 a1_row_n u149.2.2 o_decimal_digits_c)) S E hS hP hD (c_By_addNumber l z D g a1 a1_row u132.1 u132.2.1 a1_row_n u132.2.2 u145 (1 : Int32) u149 hc149) cal_By_addNumber wd_616 wd_617 wd_615 rfl [2, 3] rfl rfl rfl (gx_rc E hP 2 rfl rfl) rfl hl.1 rfl d_Sh_writeDecimal_149 ⟨Nat.zero_le _, Nat.zero_le _⟩ rfl (fun H locs hS hP hD => ?_)
    obtain rfl := Option.some.inj hf
    exact gx_rv S hr hlk hS hP hD d_Sh_writeDecimal_152
  have c_76 : ∀ (a1_lengthq : Int32) (a1_overq : Int32) (a1_row_cq : Nat → Int32) (ls : Array Slot) (H : Heap) (locs : List Loc), lv_has ls 2 [(0, .ref o), (1, .ref a1)] → va_S (va_A (ww_Sh_writeDecimal g o o_decimal a1 a1_row o_decimal_digits (.ref o_decimal) o_value_v o_unit_v o_up_v o_down_v o_rest_v o_point o_decimal_number_v o_decimal_chunks_v (.ref o_decimal_digits) o_decimal_size o_decimal_point (.ref a1_row) a1_length a1_over a1_row_n a1_row_c o_decimal_digits_c) s.heap.size) s.heap H locs → va_P D vwC (ww_Sh_writeDecimal g o o_decimal a1 a1_row o_decimal_digits (.ref o_decimal) o_value_v o_unit_v o_up_v o_down_v o_rest_v o_point o_decimal_number_v o_decimal_chunks_v (.ref o_decimal_digits) o_decimal_size o_decimal_point (.ref a1_row) a1_lengthq a1_overq a1_row_n a1_row_cq o_decimal_digits_c) H → va_D (va_A (ww_Sh_writeDecimal g o o_decimal a1 a1_row o_decimal_digits (.ref o_decimal) o_value_v o_unit_v o_up_v o_down_v o_rest_v o_point o_decimal_number_v o_decimal_chunks_v (.ref o_decimal_digits) o_decimal_size o_decimal_point (.ref a1_row) a1_length a1_over a1_row_n a1_row_c o_decimal_digits_c) s.heap.size) (ww_Sh_writeDecimal g o o_decimal a1 a1_row o_decimal_digits (.ref o_decimal) o_value_v o_unit_v o_up_v o_down_v o_rest_v o_point o_decimal_number_v o_decimal_chunks_v (.ref o_decimal_digits) o_decimal_size o_decimal_point (.ref a1_row) a1_lengthq a1_overq a1_row_n a1_row_cq o_decimal_digits_c) → (f_Sh_writeDecimal_76 a1_row_n o_decimal_point o_decimal_size a1_lengthq a1_overq o_decimal_digits_c a1_row_cq) = some r → W p l e ({ frames := 5, cells := 0, slots := 0, locals := 107 } : Room) s m ([.ref o, .ref a1] : List Value).toArray below meth c H locs 0 0 (MQ below (gx_Qv D (ww_Sh_writeDecimal g o o_decimal a1 a1_row o_decimal_digits (.ref o_decimal) o_value_v o_unit_v o_up_v o_down_v o_rest_v o_point o_decimal_number_v o_decimal_chunks_v (.ref o_decimal_digits) o_decimal_size o_decimal_point (.ref a1_row) a1_length a1_over a1_row_n a1_row_c o_decimal_digits_c) (ww_Sh_writeDecimal g o o_decimal a1 a1_row o_decimal_digits (.ref o_decimal) o_value_v o_unit_v o_up_v o_down_v o_rest_v o_point o_decimal_number_v o_decimal_chunks_v (.ref o_decimal_digits) o_decimal_size o_decimal_point (.ref a1_row) r.1 r.2.1 a1_row_n r.2.2 o_decimal_digits_c) s.heap.size) ([.ref o, .ref a1] : List Value).toArray s 0 0 (va_A (ww_Sh_writeDecimal g o o_decimal a1 a1_row o_decimal_digits (.ref o_decimal) o_value_v o_unit_v o_up_v o_down_v o_rest_v o_point o_decimal_number_v o_decimal_chunks_v (.ref o_decimal_digits) o_decimal_size o_decimal_point (.ref a1_row) a1_length a1_over a1_row_n a1_row_c o_decimal_digits_c) s.heap.size)) (F0 m 76 ls []) := by
    intro a1_lengthq a1_overq a1_row_cq ls H locs hl hS hP hD hf
    have hf : ((f_Dc_addDigits (0 : Int32) (1 : Int32) a1_row_n o_decimal_size a1_lengthq a1_overq o_decimal_digits_c a1_row_cq).bind fun u83 => (f_By_add (46 : Int32) a1_row_n u83.1 u83.2.1 u83.2.2).bind fun u89 => (f_JMath_max (o_decimal_size - (1 : Int32)) (1 : Int32)).bind fun u108 => (f_Dc_addDigits (1 : Int32) u108 a1_row_n o_decimal_size u89.1 u89.2.1 o_decimal_digits_c u89.2.2).bind fun u111 => if o_decimal_point ≤ 0 then (f_Sh_writeDecimal_132 4 a1_row_n o_decimal_point o_decimal_size u111.1 u111.2.1 o_decimal_digits_c u111.2.2) else (f_Sh_writeDecimal_132 3 a1_row_n o_decimal_point o_decimal_size u111.1 u111.2.1 o_decimal_digits_c u111.2.2)) = some r := hf
    refine lv_aload_n S.1 S.2.1 d_Sh_writeDecimal_76 rfl (lv_at hl 0 rfl) ?_
    refine gx_gf (v := .ref o_decimal) S E hP 0 rfl rfl i_Sh 0 rfl wd_229 ⟨rfl, rfl, rfl⟩ rfl d_Sh_writeDecimal_77 ?_
    refine lv_aload_n S.1 S.2.1 d_Sh_writeDecimal_80 rfl (lv_at hl 1 rfl) ?_
    refine lv_iconst (v := 0) S.1 S.2.1 d_Sh_writeDecimal_81 (by decide) ?_
    refine lv_iconst (v := 1) S.1 S.2.1 d_Sh_writeDecimal_82 (by decide) ?_
    obtain ⟨u83, hc83, hf⟩ := gx_bnd hf
    refine gx_Vv (ws2 := (ww_Sh_writeDecimal g o o_decimal a1 a1_row o_decimal_digits (.ref o_decimal) o_value_v o_unit_v o_up_v o_down_v o_rest_v o_point o_decimal_number_v o_decimal_chunks_v (.ref o_decimal_digits) o_decimal_size o_decimal_point (.ref a1_row) u83.1 u83.2.1 a1_row_n u83.2.2 o_decimal_digits_c)) S E hS hP hD (c_Dc_addDigits l z D g o_decimal a1 a1_row o_decimal_digits o_decimal_number_v o_decimal_chunks_v o_decimal_size o_decimal_point a1_lengthq a1_overq a1_row_n a1_row_cq o_decimal_digits_c (0 : Int32) (1 : Int32) u83 hc83) cal_Dc_addDigits wd_602 wd_603 wd_601 rfl [1, 2, 3, 4] rfl rfl rfl (gx_rc E hP 1 rfl rfl) rfl hl.1 rfl d_Sh_writeDecimal_83 ⟨Nat.zero_le _, Nat.zero_le _⟩ rfl (fun H locs hS hP hD => ?_)
    refine lv_aload_n S.1 S.2.1 d_Sh_writeDecimal_86 rfl (lv_at hl 1 rfl) ?_
    refine lv_bipush (v := 46) S.1 S.2.1 d_Sh_writeDecimal_87 (by decide) ?_
    obtain ⟨u89, hc89, hf⟩ := gx_bnd hf
    refine gx_Vv (ws2 := (ww_Sh_writeDecimal g o o_decimal a1 a1_row o_decimal_digits (.ref o_decimal) o_value_v o_unit_v o_up_v o_down_v o_rest_v o_point o_decimal_number_v o_decimal_chunks_v (.ref o_decimal_digits) o_decimal_size o_decimal_point (.ref a1_row) u89.1 u89.2.1 a1_row_n u89.2.2 o_decimal_digits_c)) S E hS hP hD (c_By_add l z D g a1 a1_row u83.1 u83.2.1 a1_row_n u83.2.2 (46 : Int32) u89 hc89) cal_By_add wd_479 wd_480 wd_482 rfl [2, 3] rfl rfl rfl (gx_rc E hP 2 rfl rfl) rfl hl.1 rfl d_Sh_writeDecimal_89 ⟨Nat.zero_le _, Nat.zero_le _⟩ rfl (fun H locs hS hP hD => ?_)
    refine lv_aload_n S.1 S.2.1 d_Sh_writeDecimal_92 rfl (lv_at hl 0 rfl) ?_
    refine gx_gf (v := .ref o_decimal) S E hP 0 rfl rfl i_Sh 0 rfl wd_229 ⟨rfl, rfl, rfl⟩ rfl d_Sh_writeDecimal_93 ?_
    refine lv_aload_n S.1 S.2.1 d_Sh_writeDecimal_96 rfl (lv_at hl 1 rfl) ?_
    refine lv_iconst (v := 1) S.1 S.2.1 d_Sh_writeDecimal_97 (by decide) ?_
    refine lv_aload_n S.1 S.2.1 d_Sh_writeDecimal_98 rfl (lv_at hl 0 rfl) ?_
    refine gx_gf (v := .ref o_decimal) S E hP 0 rfl rfl i_Sh 0 rfl wd_229 ⟨rfl, rfl, rfl⟩ rfl d_Sh_writeDecimal_99 ?_
    refine gx_gf (v := .int o_decimal_size) S E hP 1 rfl rfl i_Dc 3 rfl wd_212 ⟨rfl, rfl, rfl⟩ rfl d_Sh_writeDecimal_102 ?_
    refine lv_iconst (v := 1) S.1 S.2.1 d_Sh_writeDecimal_105 (by decide) ?_
    refine lv_isub S.1 S.2.1 d_Sh_writeDecimal_106 ?_
    refine lv_iconst (v := 1) S.1 S.2.1 d_Sh_writeDecimal_107 (by decide) ?_
    obtain ⟨u108, hc108, hf⟩ := gx_bnd hf
    refine gx_Si (ws2 := (ww_Sh_writeDecimal g o o_decimal a1 a1_row o_decimal_digits (.ref o_decimal) o_value_v o_unit_v o_up_v o_down_v o_rest_v o_point o_decimal_number_v o_decimal_chunks_v (.ref o_decimal_digits) o_decimal_size o_decimal_point (.ref a1_row) u89.1 u89.2.1 a1_row_n u89.2.2 o_decimal_digits_c)) S E hS hP hD (c_JMath_max l z D g (o_decimal_size - (1 : Int32)) (1 : Int32) u108 hc108) cal_JMath_max wd_411 wd_497 rfl [] rfl rfl rfl rfl hl.1 rfl d_Sh_writeDecimal_108 ⟨Nat.zero_le _, Nat.zero_le _⟩ rfl (fun H locs hS hP hD => ?_)
    obtain ⟨u111, hc111, hf⟩ := gx_bnd hf
    refine gx_Vv (ws2 := (ww_Sh_writeDecimal g o o_decimal a1 a1_row o_decimal_digits (.ref o_decimal) o_value_v o_unit_v o_up_v o_down_v o_rest_v o_point o_decimal_number_v o_decimal_chunks_v (.ref o_decimal_digits) o_decimal_size o_decimal_point (.ref a1_row) u111.1 u111.2.1 a1_row_n u111.2.2 o_decimal_digits_c)) S E hS hP hD (c_Dc_addDigits l z D g o_decimal a1 a1_row o_decimal_digits o_decimal_number_v o_decimal_chunks_v o_decimal_size o_decimal_point u89.1 u89.2.1 a1_row_n u89.2.2 o_decimal_digits_c (1 : Int32) u108 u111 hc111) cal_Dc_addDigits wd_602 wd_603 wd_601 rfl [1, 2, 3, 4] rfl rfl rfl (gx_rc E hP 1 rfl rfl) rfl hl.1 rfl d_Sh_writeDecimal_111 ⟨Nat.zero_le _, Nat.zero_le _⟩ rfl (fun H locs hS hP hD => ?_)
    refine lv_aload_n S.1 S.2.1 d_Sh_writeDecimal_114 rfl (lv_at hl 1 rfl) ?_
    refine lv_aload_n S.1 S.2.1 d_Sh_writeDecimal_115 rfl (lv_at hl 0 rfl) ?_
    refine gx_gf (v := .ref o_decimal) S E hP 0 rfl rfl i_Sh 0 rfl wd_229 ⟨rfl, rfl, rfl⟩ rfl d_Sh_writeDecimal_116 ?_
    refine gx_gf (v := .int o_decimal_point) S E hP 1 rfl rfl i_Dc 4 rfl wd_214 ⟨rfl, rfl, rfl⟩ rfl d_Sh_writeDecimal_119 ?_
    refine lv_if_le (tgt := 130) S.1 S.2.1 d_Sh_writeDecimal_122 (by decide) (fun h => ?_) (fun h => ?_)
    ·
      have hf := gx_ifp h hf
      refine va_ldcS S.1 S.2.1 S.2.2.2.1 (sr_4 E) d_Sh_writeDecimal_130 ?_
      exact c_132 4 u111.1 u111.2.1 u111.2.2 ls _ _ (lv_sub hl [0, 1] rfl) hS hP hD hf
    ·
      have hf := gx_ifn h hf
      refine va_ldcS S.1 S.2.1 S.2.2.2.1 (sr_3 E) d_Sh_writeDecimal_125 ?_
      refine lv_goto (tgt := 132) S.1 S.2.1 d_Sh_writeDecimal_127 (by decide) ?_
      exact c_132 3 u111.1 u111.2.1 u111.2.2 ls _ _ (lv_sub hl [0, 1] rfl) hS hP hD hf
  have hf : (if o_decimal_point < (-2 : Int32) then (f_Sh_writeDecimal_76 a1_row_n o_decimal_point o_decimal_size a1_length a1_over o_decimal_digits_c a1_row_c) else (if (7 : Int32) < o_decimal_point then (f_Sh_writeDecimal_76 a1_row_n o_decimal_point o_decimal_size a1_length a1_over o_decimal_digits_c a1_row_c) else ((f_Dc_addWhole (0 : Int32) a1_row_n o_decimal_point o_decimal_size o_decimal_digits_c a1_length a1_over a1_row_c).bind fun u30 => (f_By_add (46 : Int32) a1_row_n u30.1 u30.2.1 u30.2.2).bind fun u36 => (f_JMath_max (o_decimal_size - o_decimal_point) (1 : Int32)).bind fun u67 => (f_Dc_addDigits o_decimal_point u67 a1_row_n o_decimal_size u36.1 u36.2.1 o_decimal_digits_c u36.2.2).bind fun u70 => some (u70.1, u70.2.1, u70.2.2)))) = some r := hf
  refine lv_aload_n S.1 S.2.1 d_Sh_writeDecimal_0 rfl (lv_at hl 0 rfl) ?_
  refine gx_gf (v := .ref o_decimal) S E hP 0 rfl rfl i_Sh 0 rfl wd_229 ⟨rfl, rfl, rfl⟩ rfl d_Sh_writeDecimal_1 ?_
  refine gx_gf (v := .int o_decimal_point) S E hP 1 rfl rfl i_Dc 4 rfl wd_214 ⟨rfl, rfl, rfl⟩ rfl d_Sh_writeDecimal_4 ?_
  refine lv_bipush (v := (-2)) S.1 S.2.1 d_Sh_writeDecimal_7 (by decide) ?_
  refine lv_icmp_lt (tgt := 76) S.1 S.2.1 d_Sh_writeDecimal_9 (by decide) (fun h => ?_) (fun h => ?_)
  ·
    have hf := gx_ifp h hf
    exact c_76 a1_length a1_over a1_row_c ls _ _ (lv_sub hl [0, 1] rfl) hS hP hD hf
  ·
    have hf := gx_ifn h hf
    refine lv_aload_n S.1 S.2.1 d_Sh_writeDecimal_12 rfl (lv_at hl 0 rfl) ?_
    refine gx_gf (v := .ref o_decimal) S E hP 0 rfl rfl i_Sh 0 rfl wd_229 ⟨rfl, rfl, rfl⟩ rfl d_Sh_writeDecimal_13 ?_
    refine gx_gf (v := .int o_decimal_point) S E hP 1 rfl rfl i_Dc 4 rfl wd_214 ⟨rfl, rfl, rfl⟩ rfl d_Sh_writeDecimal_16 ?_
    refine lv_bipush (v := 7) S.1 S.2.1 d_Sh_writeDecimal_19 (by decide) ?_
    refine lv_icmp_gt (tgt := 76) S.1 S.2.1 d_Sh_writeDecimal_21 (by decide) (fun h => ?_) (fun h => ?_)
    ·
      have hf := gx_ifp h hf
      exact c_76 a1_length a1_over a1_row_c ls _ _ (lv_sub hl [0, 1] rfl) hS hP hD hf
    ·
      have hf := gx_ifn h hf
      refine lv_aload_n S.1 S.2.1 d_Sh_writeDecimal_24 rfl (lv_at hl 0 rfl) ?_
      refine gx_gf (v := .ref o_decimal) S E hP 0 rfl rfl i_Sh 0 rfl wd_229 ⟨rfl, rfl, rfl⟩ rfl d_Sh_writeDecimal_25 ?_
      refine lv_aload_n S.1 S.2.1 d_Sh_writeDecimal_28 rfl (lv_at hl 1 rfl) ?_
      refine lv_iconst (v := 0) S.1 S.2.1 d_Sh_writeDecimal_29 (by decide) ?_
      obtain ⟨u30, hc30, hf⟩ := gx_bnd hf
      refine gx_Vv (ws2 := (ww_Sh_writeDecimal g o o_decimal a1 a1_row o_decimal_digits (.ref o_decimal) o_value_v o_unit_v o_up_v o_down_v o_rest_v o_point o_decimal_number_v o_decimal_chunks_v (.ref o_decimal_digits) o_decimal_size o_decimal_point (.ref a1_row) u30.1 u30.2.1 a1_row_n u30.2.2 o_decimal_digits_c)) S E hS hP hD (c_Dc_addWhole l z D g o_decimal o_decimal_digits a1 a1_row o_decimal_number_v o_decimal_chunks_v o_decimal_size o_decimal_point o_decimal_digits_c a1_length a1_over a1_row_n a1_row_c (0 : Int32) u30 hc30) cal_Dc_addWhole wd_592 wd_593 wd_591 rfl [1, 4, 2, 3] rfl rfl rfl (gx_rc E hP 1 rfl rfl) rfl hl.1 rfl d_Sh_writeDecimal_30 ⟨Nat.zero_le _, Nat.zero_le _⟩ rfl (fun H locs hS hP hD => ?_)
      refine lv_aload_n S.1 S.2.1 d_Sh_writeDecimal_33 rfl (lv_at hl 1 rfl) ?_
      refine lv_bipush (v := 46) S.1 S.2.1 d_Sh_writeDecimal_34 (by decide) ?_
      obtain ⟨u36, hc36, hf⟩ := gx_bnd hf
      refine gx_Vv (ws2 := (ww_Sh_writeDecimal g o o_decimal a1 a1_row o_decimal_digits (.ref o_decimal) o_value_v o_unit_v o_up_v o_down_v o_rest_v o_point o_decimal_number_v o_decimal_chunks_v (.ref o_decimal_digits) o_decimal_size o_decimal_point (.ref a1_row) u36.1 u36.2.1 a1_row_n u36.2.2 o_decimal_digits_c)) S E hS hP hD (c_By_add l z D g a1 a1_row u30.1 u30.2.1 a1_row_n u30.2.2 (46 : Int32) u36 hc36) cal_By_add wd_479 wd_480 wd_482 rfl [2, 3] rfl rfl rfl (gx_rc E hP 2 rfl rfl) rfl hl.1 rfl d_Sh_writeDecimal_36 ⟨Nat.zero_le _, Nat.zero_le _⟩ rfl (fun H locs hS hP hD => ?_)
      refine lv_aload_n S.1 S.2.1 d_Sh_writeDecimal_39 rfl (lv_at hl 0 rfl) ?_
      refine gx_gf (v := .ref o_decimal) S E hP 0 rfl rfl i_Sh 0 rfl wd_229 ⟨rfl, rfl, rfl⟩ rfl d_Sh_writeDecimal_40 ?_
      refine lv_aload_n S.1 S.2.1 d_Sh_writeDecimal_43 rfl (lv_at hl 1 rfl) ?_
      refine lv_aload_n S.1 S.2.1 d_Sh_writeDecimal_44 rfl (lv_at hl 0 rfl) ?_
      refine gx_gf (v := .ref o_decimal) S E hP 0 rfl rfl i_Sh 0 rfl wd_229 ⟨rfl, rfl, rfl⟩ rfl d_Sh_writeDecimal_45 ?_
      refine gx_gf (v := .int o_decimal_point) S E hP 1 rfl rfl i_Dc 4 rfl wd_214 ⟨rfl, rfl, rfl⟩ rfl d_Sh_writeDecimal_48 ?_
      refine lv_aload_n S.1 S.2.1 d_Sh_writeDecimal_51 rfl (lv_at hl 0 rfl) ?_
      refine gx_gf (v := .ref o_decimal) S E hP 0 rfl rfl i_Sh 0 rfl wd_229 ⟨rfl, rfl, rfl⟩ rfl d_Sh_writeDecimal_52 ?_
      refine gx_gf (v := .int o_decimal_size) S E hP 1 rfl rfl i_Dc 3 rfl wd_212 ⟨rfl, rfl, rfl⟩ rfl d_Sh_writeDecimal_55 ?_
      refine lv_aload_n S.1 S.2.1 d_Sh_writeDecimal_58 rfl (lv_at hl 0 rfl) ?_
      refine gx_gf (v := .ref o_decimal) S E hP 0 rfl rfl i_Sh 0 rfl wd_229 ⟨rfl, rfl, rfl⟩ rfl d_Sh_writeDecimal_59 ?_
      refine gx_gf (v := .int o_decimal_point) S E hP 1 rfl rfl i_Dc 4 rfl wd_214 ⟨rfl, rfl, rfl⟩ rfl d_Sh_writeDecimal_62 ?_
      refine lv_isub S.1 S.2.1 d_Sh_writeDecimal_65 ?_
      refine lv_iconst (v := 1) S.1 S.2.1 d_Sh_writeDecimal_66 (by decide) ?_
      obtain ⟨u67, hc67, hf⟩ := gx_bnd hf
      refine gx_Si (ws2 := (ww_Sh_writeDecimal g o o_decimal a1 a1_row o_decimal_digits (.ref o_decimal) o_value_v o_unit_v o_up_v o_down_v o_rest_v o_point o_decimal_number_v o_decimal_chunks_v (.ref o_decimal_digits) o_decimal_size o_decimal_point (.ref a1_row) u36.1 u36.2.1 a1_row_n u36.2.2 o_decimal_digits_c)) S E hS hP hD (c_JMath_max l z D g (o_decimal_size - o_decimal_point) (1 : Int32) u67 hc67) cal_JMath_max wd_411 wd_497 rfl [] rfl rfl rfl rfl hl.1 rfl d_Sh_writeDecimal_67 ⟨Nat.zero_le _, Nat.zero_le _⟩ rfl (fun H locs hS hP hD => ?_)
      obtain ⟨u70, hc70, hf⟩ := gx_bnd hf
      refine gx_Vv (ws2 := (ww_Sh_writeDecimal g o o_decimal a1 a1_row o_decimal_digits (.ref o_decimal) o_value_v o_unit_v o_up_v o_down_v o_rest_v o_point o_decimal_number_v o_decimal_chunks_v (.ref o_decimal_digits) o_decimal_size o_decimal_point (.ref a1_row) u70.1 u70.2.1 a1_row_n u70.2.2 o_decimal_digits_c)) S E hS hP hD (c_Dc_addDigits l z D g o_decimal a1 a1_row o_decimal_digits o_decimal_number_v o_decimal_chunks_v o_decimal_size o_decimal_point u36.1 u36.2.1 a1_row_n u36.2.2 o_decimal_digits_c o_decimal_point u67 u70 hc70) cal_Dc_addDigits wd_602 wd_603 wd_601 rfl [1, 2, 3, 4] rfl rfl rfl (gx_rc E hP 1 rfl rfl) rfl hl.1 rfl d_Sh_writeDecimal_70 ⟨Nat.zero_le _, Nat.zero_le _⟩ rfl (fun H locs hS hP hD => ?_)
      refine lv_goto (tgt := 152) S.1 S.2.1 d_Sh_writeDecimal_73 (by decide) ?_
      obtain rfl := Option.some.inj hf
      exact gx_rv S hr hlk hS hP hD d_Sh_writeDecimal_152
