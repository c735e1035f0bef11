theorem d_Sh_setUp_0 : decode b_Sh_setUp 0 = .ok (.aload_n 1, 1) := by decide +kernel
theorem d_Sh_setUp_1 : decode b_Sh_setUp 1 = .ok (.getfield 146, 3) := by decide +kernel
theorem d_Sh_setUp_4 : decode b_Sh_setUp 4 = .ok (.bipush 63, 2) := by decide +kernel
theorem d_Sh_setUp_6 : decode b_Sh_setUp 6 = .ok (.iadd, 1) := by decide +kernel
theorem d_Sh_setUp_7 : decode b_Sh_setUp 7 = .ok (.aload_n 1, 1) := by decide +kernel
theorem d_Sh_setUp_8 : decode b_Sh_setUp 8 = .ok (.getfield 65, 3) := by decide +kernel
theorem d_Sh_setUp_11 : decode b_Sh_setUp 11 = .ok (.invokestatic 149, 3) := by decide +kernel
theorem d_Sh_setUp_14 : decode b_Sh_setUp 14 = .ok (.isub, 1) := by decide +kernel
theorem d_Sh_setUp_15 : decode b_Sh_setUp 15 = .ok (.istore_n 2, 1) := by decide +kernel
theorem d_Sh_setUp_16 : decode b_Sh_setUp 16 = .ok (.aload_n 0, 1) := by decide +kernel
theorem d_Sh_setUp_17 : decode b_Sh_setUp 17 = .ok (.iload_n 2, 1) := by decide +kernel
theorem d_Sh_setUp_18 : decode b_Sh_setUp 18 = .ok (.ldc 155, 2) := by decide +kernel
theorem d_Sh_setUp_20 : decode b_Sh_setUp 20 = .ok (.imul, 1) := by decide +kernel
theorem d_Sh_setUp_21 : decode b_Sh_setUp 21 = .ok (.bipush 18, 2) := by decide +kernel
theorem d_Sh_setUp_23 : decode b_Sh_setUp 23 = .ok (.ishr, 1) := by decide +kernel
theorem d_Sh_setUp_24 : decode b_Sh_setUp 24 = .ok (.iconst 1, 1) := by decide +kernel
theorem d_Sh_setUp_25 : decode b_Sh_setUp 25 = .ok (.iadd, 1) := by decide +kernel
theorem d_Sh_setUp_26 : decode b_Sh_setUp 26 = .ok (.putfield 35, 3) := by decide +kernel
theorem d_Sh_setUp_29 : decode b_Sh_setUp 29 = .ok (.aload_n 1, 1) := by decide +kernel
theorem d_Sh_setUp_30 : decode b_Sh_setUp 30 = .ok (.getfield 146, 3) := by decide +kernel
theorem d_Sh_setUp_33 : decode b_Sh_setUp 33 = .ok (.aload_n 0, 1) := by decide +kernel
theorem d_Sh_setUp_34 : decode b_Sh_setUp 34 = .ok (.getfield 35, 3) := by decide +kernel
theorem d_Sh_setUp_37 : decode b_Sh_setUp 37 = .ok (.isub, 1) := by decide +kernel
theorem d_Sh_setUp_38 : decode b_Sh_setUp 38 = .ok (.istore_n 3, 1) := by decide +kernel
theorem d_Sh_setUp_39 : decode b_Sh_setUp 39 = .ok (.iload_n 3, 1) := by decide +kernel
theorem d_Sh_setUp_40 : decode b_Sh_setUp 40 = .ok (.iconst 0, 1) := by decide +kernel
theorem d_Sh_setUp_41 : decode b_Sh_setUp 41 = .ok (.invokestatic 91, 3) := by decide +kernel
theorem d_Sh_setUp_44 : decode b_Sh_setUp 44 = .ok (.istore 4, 2) := by decide +kernel
theorem d_Sh_setUp_46 : decode b_Sh_setUp 46 = .ok (.aload_n 0, 1) := by decide +kernel
theorem d_Sh_setUp_47 : decode b_Sh_setUp 47 = .ok (.getfield 19, 3) := by decide +kernel
theorem d_Sh_setUp_50 : decode b_Sh_setUp 50 = .ok (.aload_n 1, 1) := by decide +kernel
theorem d_Sh_setUp_51 : decode b_Sh_setUp 51 = .ok (.getfield 65, 3) := by decide +kernel
theorem d_Sh_setUp_54 : decode b_Sh_setUp 54 = .ok (.aload_n 0, 1) := by decide +kernel
theorem d_Sh_setUp_55 : decode b_Sh_setUp 55 = .ok (.getfield 35, 3) := by decide +kernel
theorem d_Sh_setUp_58 : decode b_Sh_setUp 58 = .ok (.ineg, 1) := by decide +kernel
theorem d_Sh_setUp_59 : decode b_Sh_setUp 59 = .ok (.iconst 0, 1) := by decide +kernel
theorem d_Sh_setUp_60 : decode b_Sh_setUp 60 = .ok (.invokestatic 91, 3) := by decide +kernel
theorem d_Sh_setUp_63 : decode b_Sh_setUp 63 = .ok (.iload 4, 2) := by decide +kernel
theorem d_Sh_setUp_65 : decode b_Sh_setUp 65 = .ok (.iconst 2, 1) := by decide +kernel
theorem d_Sh_setUp_66 : decode b_Sh_setUp 66 = .ok (.iadd, 1) := by decide +kernel
theorem d_Sh_setUp_67 : decode b_Sh_setUp 67 = .ok (.invokevirtual 156, 3) := by decide +kernel
theorem d_Sh_setUp_70 : decode b_Sh_setUp 70 = .ok (.aload_n 0, 1) := by decide +kernel
theorem d_Sh_setUp_71 : decode b_Sh_setUp 71 = .ok (.getfield 26, 3) := by decide +kernel
theorem d_Sh_setUp_74 : decode b_Sh_setUp 74 = .ok (.lconst 1, 1) := by decide +kernel
theorem d_Sh_setUp_75 : decode b_Sh_setUp 75 = .ok (.aload_n 0, 1) := by decide +kernel
theorem d_Sh_setUp_76 : decode b_Sh_setUp 76 = .ok (.getfield 35, 3) := by decide +kernel
theorem d_Sh_setUp_79 : decode b_Sh_setUp 79 = .ok (.ineg, 1) := by decide +kernel
theorem d_Sh_setUp_80 : decode b_Sh_setUp 80 = .ok (.iconst 0, 1) := by decide +kernel
theorem d_Sh_setUp_81 : decode b_Sh_setUp 81 = .ok (.invokestatic 91, 3) := by decide +kernel
theorem d_Sh_setUp_84 : decode b_Sh_setUp 84 = .ok (.iload 4, 2) := by decide +kernel
theorem d_Sh_setUp_86 : decode b_Sh_setUp 86 = .ok (.iconst 1, 1) := by decide +kernel
theorem d_Sh_setUp_87 : decode b_Sh_setUp 87 = .ok (.iadd, 1) := by decide +kernel
theorem d_Sh_setUp_88 : decode b_Sh_setUp 88 = .ok (.invokevirtual 156, 3) := by decide +kernel
theorem d_Sh_setUp_91 : decode b_Sh_setUp 91 = .ok (.aload_n 0, 1) := by decide +kernel
theorem d_Sh_setUp_92 : decode b_Sh_setUp 92 = .ok (.getfield 29, 3) := by decide +kernel
theorem d_Sh_setUp_95 : decode b_Sh_setUp 95 = .ok (.lconst 1, 1) := by decide +kernel
theorem d_Sh_setUp_96 : decode b_Sh_setUp 96 = .ok (.aload_n 0, 1) := by decide +kernel
theorem d_Sh_setUp_97 : decode b_Sh_setUp 97 = .ok (.getfield 35, 3) := by decide +kernel
theorem d_Sh_setUp_100 : decode b_Sh_setUp 100 = .ok (.ineg, 1) := by decide +kernel
theorem d_Sh_setUp_101 : decode b_Sh_setUp 101 = .ok (.iconst 0, 1) := by decide +kernel
theorem d_Sh_setUp_102 : decode b_Sh_setUp 102 = .ok (.invokestatic 91, 3) := by decide +kernel
theorem d_Sh_setUp_105 : decode b_Sh_setUp 105 = .ok (.aload_n 1, 1) := by decide +kernel
theorem d_Sh_setUp_106 : decode b_Sh_setUp 106 = .ok (.invokevirtual 160, 3) := by decide +kernel
theorem d_Sh_setUp_109 : decode b_Sh_setUp 109 = .ok (.ifCond .eq 8, 3) := by decide +kernel
theorem d_Sh_setUp_112 : decode b_Sh_setUp 112 = .ok (.iload 4, 2) := by decide +kernel
theorem d_Sh_setUp_114 : decode b_Sh_setUp 114 = .ok (.goto 7, 3) := by decide +kernel
theorem d_Sh_setUp_117 : decode b_Sh_setUp 117 = .ok (.iload 4, 2) := by decide +kernel
theorem d_Sh_setUp_119 : decode b_Sh_setUp 119 = .ok (.iconst 1, 1) := by decide +kernel
theorem d_Sh_setUp_120 : decode b_Sh_setUp 120 = .ok (.iadd, 1) := by decide +kernel
theorem d_Sh_setUp_121 : decode b_Sh_setUp 121 = .ok (.invokevirtual 156, 3) := by decide +kernel
theorem d_Sh_setUp_124 : decode b_Sh_setUp 124 = .ok (.aload_n 0, 1) := by decide +kernel
theorem d_Sh_setUp_125 : decode b_Sh_setUp 125 = .ok (.getfield 23, 3) := by decide +kernel
theorem d_Sh_setUp_128 : decode b_Sh_setUp 128 = .ok (.lconst 1, 1) := by decide +kernel
theorem d_Sh_setUp_129 : decode b_Sh_setUp 129 = .ok (.aload_n 0, 1) := by decide +kernel
theorem d_Sh_setUp_130 : decode b_Sh_setUp 130 = .ok (.getfield 35, 3) := by decide +kernel
theorem d_Sh_setUp_133 : decode b_Sh_setUp 133 = .ok (.iconst 0, 1) := by decide +kernel
theorem d_Sh_setUp_134 : decode b_Sh_setUp 134 = .ok (.invokestatic 91, 3) := by decide +kernel
theorem d_Sh_setUp_137 : decode b_Sh_setUp 137 = .ok (.iload_n 3, 1) := by decide +kernel
theorem d_Sh_setUp_138 : decode b_Sh_setUp 138 = .ok (.ineg, 1) := by decide +kernel
theorem d_Sh_setUp_139 : decode b_Sh_setUp 139 = .ok (.iconst 0, 1) := by decide +kernel
theorem d_Sh_setUp_140 : decode b_Sh_setUp 140 = .ok (.invokestatic 91, 3) := by decide +kernel
theorem d_Sh_setUp_143 : decode b_Sh_setUp 143 = .ok (.iconst 2, 1) := by decide +kernel
theorem d_Sh_setUp_144 : decode b_Sh_setUp 144 = .ok (.iadd, 1) := by decide +kernel
theorem d_Sh_setUp_145 : decode b_Sh_setUp 145 = .ok (.invokevirtual 156, 3) := by decide +kernel
theorem d_Sh_setUp_148 : decode b_Sh_setUp 148 = .ok (.aload_n 0, 1) := by decide +kernel
theorem d_Sh_setUp_149 : decode b_Sh_setUp 149 = .ok (.getfield 19, 3) := by decide +kernel
theorem d_Sh_setUp_152 : decode b_Sh_setUp 152 = .ok (.aload_n 0, 1) := by decide +kernel
theorem d_Sh_setUp_153 : decode b_Sh_setUp 153 = .ok (.getfield 23, 3) := by decide +kernel
theorem d_Sh_setUp_156 : decode b_Sh_setUp 156 = .ok (.invokevirtual 142, 3) := by decide +kernel
theorem d_Sh_setUp_159 : decode b_Sh_setUp 159 = .ok (.ifCond .lt 23, 3) := by decide +kernel
theorem d_Sh_setUp_162 : decode b_Sh_setUp 162 = .ok (.aload_n 0, 1) := by decide +kernel
theorem d_Sh_setUp_163 : decode b_Sh_setUp 163 = .ok (.getfield 23, 3) := by decide +kernel
theorem d_Sh_setUp_166 : decode b_Sh_setUp 166 = .ok (.bipush 10, 2) := by decide +kernel
theorem d_Sh_setUp_168 : decode b_Sh_setUp 168 = .ok (.iconst 0, 1) := by decide +kernel
theorem d_Sh_setUp_169 : decode b_Sh_setUp 169 = .ok (.invokevirtual 164, 3) := by decide +kernel
theorem d_Sh_setUp_172 : decode b_Sh_setUp 172 = .ok (.aload_n 0, 1) := by decide +kernel
theorem d_Sh_setUp_173 : decode b_Sh_setUp 173 = .ok (.dup, 1) := by decide +kernel
theorem d_Sh_setUp_174 : decode b_Sh_setUp 174 = .ok (.getfield 35, 3) := by decide +kernel
theorem d_Sh_setUp_177 : decode b_Sh_setUp 177 = .ok (.iconst 1, 1) := by decide +kernel
theorem d_Sh_setUp_178 : decode b_Sh_setUp 178 = .ok (.iadd, 1) := by decide +kernel
theorem d_Sh_setUp_179 : decode b_Sh_setUp 179 = .ok (.putfield 35, 3) := by decide +kernel
theorem d_Sh_setUp_182 : decode b_Sh_setUp 182 = .ok (.bipush 28, 2) := by decide +kernel
theorem d_Sh_setUp_184 : decode b_Sh_setUp 184 = .ok (.aload_n 0, 1) := by decide +kernel
theorem d_Sh_setUp_185 : decode b_Sh_setUp 185 = .ok (.getfield 23, 3) := by decide +kernel
theorem d_Sh_setUp_188 : decode b_Sh_setUp 188 = .ok (.invokevirtual 167, 3) := by decide +kernel
theorem d_Sh_setUp_191 : decode b_Sh_setUp 191 = .ok (.isub, 1) := by decide +kernel
theorem d_Sh_setUp_192 : decode b_Sh_setUp 192 = .ok (.bipush 31, 2) := by decide +kernel
theorem d_Sh_setUp_194 : decode b_Sh_setUp 194 = .ok (.iand, 1) := by decide +kernel
theorem d_Sh_setUp_195 : decode b_Sh_setUp 195 = .ok (.istore 5, 2) := by decide +kernel
theorem d_Sh_setUp_197 : decode b_Sh_setUp 197 = .ok (.aload_n 0, 1) := by decide +kernel
theorem d_Sh_setUp_198 : decode b_Sh_setUp 198 = .ok (.getfield 19, 3) := by decide +kernel
theorem d_Sh_setUp_201 : decode b_Sh_setUp 201 = .ok (.iload 5, 2) := by decide +kernel
theorem d_Sh_setUp_203 : decode b_Sh_setUp 203 = .ok (.invokevirtual 170, 3) := by decide +kernel
theorem d_Sh_setUp_206 : decode b_Sh_setUp 206 = .ok (.aload_n 0, 1) := by decide +kernel
theorem d_Sh_setUp_207 : decode b_Sh_setUp 207 = .ok (.getfield 26, 3) := by decide +kernel
theorem d_Sh_setUp_210 : decode b_Sh_setUp 210 = .ok (.iload 5, 2) := by decide +kernel
theorem d_Sh_setUp_212 : decode b_Sh_setUp 212 = .ok (.invokevirtual 170, 3) := by decide +kernel
theorem d_Sh_setUp_215 : decode b_Sh_setUp 215 = .ok (.aload_n 0, 1) := by decide +kernel
theorem d_Sh_setUp_216 : decode b_Sh_setUp 216 = .ok (.getfield 29, 3) := by decide +kernel
theorem d_Sh_setUp_219 : decode b_Sh_setUp 219 = .ok (.iload 5, 2) := by decide +kernel
theorem d_Sh_setUp_221 : decode b_Sh_setUp 221 = .ok (.invokevirtual 170, 3) := by decide +kernel
theorem d_Sh_setUp_224 : decode b_Sh_setUp 224 = .ok (.aload_n 0, 1) := by decide +kernel
theorem d_Sh_setUp_225 : decode b_Sh_setUp 225 = .ok (.getfield 23, 3) := by decide +kernel
theorem d_Sh_setUp_228 : decode b_Sh_setUp 228 = .ok (.iload 5, 2) := by decide +kernel
theorem d_Sh_setUp_230 : decode b_Sh_setUp 230 = .ok (.invokevirtual 170, 3) := by decide +kernel
theorem d_Sh_setUp_233 : decode b_Sh_setUp 233 = .ok (.return_, 1) := by decide +kernel
theorem cal_Sh_setUp : gx_cal y_Sh_setUp b_Sh_setUp 6 none 1 := ⟨wd_488, wd_9, by decide +kernel⟩
def ww_Sh_setUp (g : Nat → ClassId) (a1 : Nat) (o : Nat) (o_value : Nat) (o_value_limbs : Nat) (o_up : Nat) (o_up_limbs : Nat) (o_down : Nat) (o_down_limbs : Nat) (o_unit : Nat) (o_unit_limbs : Nat) (x_a1_size : Nat) (x_a1_negative : Int32) (x_a1_notANumber : Int32) (x_a1_infinite : Int32) (x_a1_c : Int64) (x_a1_q : Int32) (x_o_decimal : Value) (x_o_value : Value) (x_o_unit : Value) (x_o_up : Value) (x_o_down : Value) (x_o_rest : Value) (x_o_point : Int32) (x_o_value_limbs : Value) (x_o_value_size : Int32) (y_o_value_limbs : Nat → Int32) (x_o_up_limbs : Value) (x_o_up_size : Int32) (y_o_up_limbs : Nat → Int32) (x_o_down_limbs : Value) (x_o_down_size : Int32) (y_o_down_limbs : Nat → Int32) (x_o_unit_limbs : Value) (x_o_unit_size : Int32) (y_o_unit_limbs : Nat → Int32) : va_W := [(a1, .inr (2, [.ref (g (11 + x_a1_size)), .int x_a1_negative, .int x_a1_notANumber, .int x_a1_infinite, .long x_a1_c, .int x_a1_q])), (o, .inr (8, [x_o_decimal, x_o_value, x_o_unit, x_o_up, x_o_down, x_o_rest, .int x_o_point])), (o_value, .inr (1, [x_o_value_limbs, .int x_o_value_size])), (o_value_limbs, .inl (g 0, 96, .inl y_o_value_limbs)), (o_up, .inr (1, [x_o_up_limbs, .int x_o_up_size])), (o_up_limbs, .inl (g 0, 96, .inl y_o_up_limbs)), (o_down, .inr (1, [x_o_down_limbs, .int x_o_down_size])), (o_down_limbs, .inl (g 0, 96, .inl y_o_down_limbs)), (o_unit, .inr (1, [x_o_unit_limbs, .int x_o_unit_size])), (o_unit_limbs, .inl (g 0, 96, .inl y_o_unit_limbs))]
def f_Sh_setUp_182 (a1_q : Int32) (a1_c : Int64) (o_pointq : Int32) (o_value_sizeq : Int32) (o_value_limbs_cq : Nat → Int32) (o_up_sizeq : Int32) (o_up_limbs_cq : Nat → Int32) (a1_size : Nat) (o_down_sizeq : Int32) (o_down_limbs_cq : Nat → Int32) (o_unit_sizeq : Int32) (o_unit_limbs_cq : Nat → Int32) : Option (Int32 × Int32 × (Nat → Int32) × Int32 × (Nat → Int32) × Int32 × (Nat → Int32) × Int32 × (Nat → Int32)) := (f_Bg_bitLength o_unit_sizeq o_unit_limbs_cq).bind fun u188 => (f_Bg_shiftLeft (((28 : Int32) - u188) &&& (31 : Int32)) o_value_sizeq o_value_limbs_cq).bind fun u203 => (f_Bg_shiftLeft (((28 : Int32) - u188) &&& (31 : Int32)) o_up_sizeq o_up_limbs_cq).bind fun u212 => (f_Bg_shiftLeft (((28 : Int32) - u188) &&& (31 : Int32)) o_down_sizeq o_down_limbs_cq).bind fun u221 => (f_Bg_shiftLeft (((28 : Int32) - u188) &&& (31 : Int32)) o_unit_sizeq o_unit_limbs_cq).bind fun u230 => some (o_pointq, u203.1, u203.2, u212.1, u212.2, u221.1, u221.2, u230.1, u230.2)
def f_Sh_setUp_121 (v3 : Int32) (t0 : Int32) (t1 : Int32) (t2 : Int64) (a1_q : Int32) (a1_c : Int64) (o_pointq : Int32) (o_value_sizeq : Int32) (o_value_limbs_cq : Nat → Int32) (o_up_sizeq : Int32) (o_up_limbs_cq : Nat → Int32) (a1_size : Nat) (o_down_sizeq : Int32) (o_down_limbs_cq : Nat → Int32) (o_unit_sizeq : Int32) (o_unit_limbs_cq : Nat → Int32) : Option (Int32 × Int32 × (Nat → Int32) × Int32 × (Nat → Int32) × Int32 × (Nat → Int32) × Int32 × (Nat → Int32)) := (f_Bg_setTimes t2 t1 t0 o_down_sizeq o_down_limbs_cq).bind fun u121 => (f_JMath_max o_pointq (0 : Int32)).bind fun u134 => (f_JMath_max (-v3) (0 : Int32)).bind fun u140 => (f_Bg_setTimes (1 : Int64) u134 (u140 + (2 : Int32)) o_unit_sizeq o_unit_limbs_cq).bind fun u145 => (f_Bg_against o_value_sizeq u145.1 o_value_limbs_cq u145.2).bind fun u156 => if u156 < 0 then (f_Sh_setUp_182 a1_q a1_c o_pointq o_value_sizeq o_value_limbs_cq o_up_sizeq o_up_limbs_cq a1_size u121.1 u121.2 u145.1 u145.2) else ((f_Bg_timesPlus (10 : Int32) (0 : Int32) u145.1 u145.2).bind fun u169 => f_Sh_setUp_182 a1_q a1_c (o_pointq + (1 : Int32)) o_value_sizeq o_value_limbs_cq o_up_sizeq o_up_limbs_cq a1_size u121.1 u121.2 u169.1 u169.2)
def f_Sh_setUp (a1_q : Int32) (a1_c : Int64) (o_point : Int32) (o_value_size : Int32) (o_value_limbs_c : Nat → Int32) (o_up_size : Int32) (o_up_limbs_c : Nat → Int32) (a1_size : Nat) (o_down_size : Int32) (o_down_limbs_c : Nat → Int32) (o_unit_size : Int32) (o_unit_limbs_c : Nat → Int32) : Option (Int32 × Int32 × (Nat → Int32) × Int32 × (Nat → Int32) × Int32 × (Nat → Int32) × Int32 × (Nat → Int32)) := (f_JLong_numberOfLeadingZeros a1_c).bind fun u11 => (f_JMath_max (a1_q - (((((a1_q + (63 : Int32)) - u11) * (78913 : Int32)) >>> ((18 : Int32) &&& 31)) + (1 : Int32))) (0 : Int32)).bind fun u41 => (f_JMath_max (-(((((a1_q + (63 : Int32)) - u11) * (78913 : Int32)) >>> ((18 : Int32) &&& 31)) + (1 : Int32))) (0 : Int32)).bind fun u60 => (f_Bg_setTimes a1_c u60 (u41 + (2 : Int32)) o_value_size o_value_limbs_c).bind fun u67 => (f_JMath_max (-(((((a1_q + (63 : Int32)) - u11) * (78913 : Int32)) >>> ((18 : Int32) &&& 31)) + (1 : Int32))) (0 : Int32)).bind fun u81 => (f_Bg_setTimes (1 : Int64) u81 (u41 + (1 : Int32)) o_up_size o_up_limbs_c).bind fun u88 => (f_JMath_max (-(((((a1_q + (63 : Int32)) - u11) * (78913 : Int32)) >>> ((18 : Int32) &&& 31)) + (1 : Int32))) (0 : Int32)).bind fun u102 => (f_Bi_isUneven a1_c a1_size a1_q).bind fun u106 => if u106 = 0 then (f_Sh_setUp_121 (a1_q - (((((a1_q + (63 : Int32)) - u11) * (78913 : Int32)) >>> ((18 : Int32) &&& 31)) + (1 : Int32))) (u41 + (1 : Int32)) u102 (1 : Int64) a1_q a1_c (((((a1_q + (63 : Int32)) - u11) * (78913 : Int32)) >>> ((18 : Int32) &&& 31)) + (1 : Int32)) u67.1 u67.2 u88.1 u88.2 a1_size o_down_size o_down_limbs_c o_unit_size o_unit_limbs_c) else (f_Sh_setUp_121 (a1_q - (((((a1_q + (63 : Int32)) - u11) * (78913 : Int32)) >>> ((18 : Int32) &&& 31)) + (1 : Int32))) u41 u102 (1 : Int64) a1_q a1_c (((((a1_q + (63 : Int32)) - u11) * (78913 : Int32)) >>> ((18 : Int32) &&& 31)) + (1 : Int32)) u67.1 u67.2 u88.1 u88.2 a1_size o_down_size o_down_limbs_c o_unit_size o_unit_limbs_c)
set_option maxHeartbeats 4000000 in
set_option maxRecDepth 100000 in
theorem c_Sh_setUp (l : Launch) (z : State) (D : va_G) (g : Nat → ClassId) (a1 : Nat) (o : Nat) (o_value : Nat) (o_value_limbs : Nat) (o_up : Nat) (o_up_limbs : Nat) (o_down : Nat) (o_down_limbs : Nat) (o_unit : Nat) (o_unit_limbs : Nat) (a1_size : Nat) (a1_negative : Int32) (a1_notANumber : Int32) (a1_infinite : Int32) (a1_c : Int64) (a1_q : Int32) (o_decimal_v : Value) (o_rest_v : Value) (o_point : Int32) (o_value_size : Int32) (o_value_limbs_c : Nat → Int32) (o_up_size : Int32) (o_up_limbs_c : Nat → Int32) (o_down_size : Int32) (o_down_limbs_c : Nat → Int32) (o_unit_size : Int32) (o_unit_limbs_c : Nat → Int32) (r : Int32 × Int32 × (Nat → Int32) × Int32 × (Nat → Int32) × Int32 × (Nat → Int32) × Int32 × (Nat → Int32)) (hf : f_Sh_setUp a1_q a1_c o_point o_value_size o_value_limbs_c o_up_size o_up_limbs_c a1_size o_down_size o_down_limbs_c o_unit_size o_unit_limbs_c = some r) : gx_Mv l z D g y_Sh_setUp b_Sh_setUp 6 ({ frames := 3, cells := 0, slots := 0, locals := 72 } : Room) [.ref o, .ref a1] (ww_Sh_setUp g a1 o o_value o_value_limbs o_up o_up_limbs o_down o_down_limbs o_unit o_unit_limbs a1_size a1_negative a1_notANumber a1_infinite a1_c a1_q o_decimal_v (.ref o_value) (.ref o_unit) (.ref o_up) (.ref o_down) o_rest_v o_point (.ref o_value_limbs) o_value_size o_value_limbs_c (.ref o_up_limbs) o_up_size o_up_limbs_c (.ref o_down_limbs) o_down_size o_down_limbs_c (.ref o_unit_limbs) o_unit_size o_unit_limbs_c) (ww_Sh_setUp g a1 o o_value o_value_limbs o_up o_up_limbs o_down o_down_limbs o_unit o_unit_limbs a1_size a1_negative a1_notANumber a1_infinite a1_c a1_q o_decimal_v (.ref o_value) (.ref o_unit) (.ref o_up) (.ref o_down) o_rest_v r.1 (.ref o_value_limbs) r.2.1 r.2.2.1 (.ref o_up_limbs) r.2.2.2.1 r.2.2.2.2.1 (.ref o_down_limbs) r.2.2.2.2.2.1 r.2.2.2.2.2.2.1 (.ref o_unit_limbs) r.2.2.2.2.2.2.2.1 r.2.2.2.2.2.2.2.2) := by
  refine gx_go (by decide +kernel) rfl ?_
  intro p e s m below meth c ls S hr hlk hnm E hP hD hl
  have hS : va_S (va_A (ww_Sh_setUp g a1 o o_value o_value_limbs o_up o_up_limbs o_down o_down_limbs o_unit o_unit_limbs a1_size a1_negative a1_notANumber a1_infinite a1_c a1_q o_decimal_v (.ref o_value) (.ref o_unit) (.ref o_up) (.ref o_down) o_rest_v o_point (.ref o_value_limbs) o_value_size o_value_limbs_c (.ref o_up_limbs) o_up_size o_up_limbs_c (.ref o_down_limbs) o_down_size o_down_limbs_c (.ref o_unit_limbs) o_unit_size o_unit_limbs_c) s.heap.size) s.heap s.heap [] := va_S.rf
  have hl : lv_has ls 6 [(0, .ref o), (1, .ref a1)] := hl
  have c_182 : ∀ (o_pointq : Int32) (o_value_sizeq : Int32) (o_value_limbs_cq : Nat → Int32) (o_up_sizeq : Int32) (o_up_limbs_cq : Nat → Int32) (o_down_sizeq : Int32) (o_down_limbs_cq : Nat → Int32) (o_unit_sizeq : Int32) (o_unit_limbs_cq : Nat → Int32) (ls : Array Slot) (H : Heap) (locs : List Loc), lv_has ls 6 [(0, .ref o)] → va_S (va_A (ww_Sh_setUp g a1 o o_value o_value_limbs o_up o_up_limbs o_down o_down_limbs o_unit o_unit_limbs a1_size a1_negative a1_notANumber a1_infinite a1_c a1_q o_decimal_v (.ref o_value) (.ref o_unit) (.ref o_up) (.ref o_down) o_rest_v o_point (.ref o_value_limbs) o_value_size o_value_limbs_c (.ref o_up_limbs) o_up_size o_up_limbs_c (.ref o_down_limbs) o_down_size o_down_limbs_c (.ref o_unit_limbs) o_unit_size o_unit_limbs_c) s.heap.size) s.heap H locs → va_P D vwC (ww_Sh_setUp g a1 o o_value o_value_limbs o_up o_up_limbs o_down o_down_limbs o_unit o_unit_limbs a1_size a1_negative a1_notANumber a1_infinite a1_c a1_q o_decimal_v (.ref o_value) (.ref o_unit) (.ref o_up) (.ref o_down) o_rest_v o_pointq (.ref o_value_limbs) o_value_sizeq o_value_limbs_cq (.ref o_up_limbs) o_up_sizeq o_up_limbs_cq (.ref o_down_limbs) o_down_sizeq o_down_limbs_cq (.ref o_unit_limbs) o_unit_sizeq o_unit_limbs_cq) H → va_D (va_A (ww_Sh_setUp g a1 o o_value o_value_limbs o_up o_up_limbs o_down o_down_limbs o_unit o_unit_limbs a1_size a1_negative a1_notANumber a1_infinite a1_c a1_q o_decimal_v (.ref o_value) (.ref o_unit) (.ref o_up) (.ref o_down) o_rest_v o_point (.ref o_value_limbs) o_value_size o_value_limbs_c (.ref o_up_limbs) o_up_size o_up_limbs_c (.ref o_down_limbs) o_down_size o_down_limbs_c (.ref o_unit_limbs) o_unit_size o_unit_limbs_c) s.heap.size) (ww_Sh_setUp g a1 o o_value o_value_limbs o_up o_up_limbs o_down o_down_limbs o_unit o_unit_limbs a1_size a1_negative a1_notANumber a1_infinite a1_c a1_q o_decimal_v (.ref o_value) (.ref o_unit) (.ref o_up) (.ref o_down) o_rest_v o_pointq (.ref o_value_limbs) o_value_sizeq o_value_limbs_cq (.ref o_up_limbs) o_up_sizeq o_up_limbs_cq (.ref o_down_limbs) o_down_sizeq o_down_limbs_cq (.ref o_unit_limbs) o_unit_sizeq o_unit_limbs_cq) → (f_Sh_setUp_182 a1_q a1_c o_pointq o_value_sizeq o_value_limbs_cq o_up_sizeq o_up_limbs_cq a1_size o_down_sizeq o_down_limbs_cq o_unit_sizeq o_unit_limbs_cq) = some r → W p l e ({ frames := 3, cells := 0, slots := 0, locals := 72 } : Room) s m ([.ref o, .ref a1] : List Value).toArray below meth c H locs 0 0 (MQ below (gx_Qv D (ww_Sh_setUp g a1 o o_value o_value_limbs o_up o_up_limbs o_down o_down_limbs o_unit o_unit_limbs a1_size a1_negative a1_notANumber a1_infinite a1_c a1_q o_decimal_v (.ref o_value) (.ref o_unit) (.ref o_up) (.ref o_down) o_rest_v o_point (.ref o_value_limbs) o_value_size o_value_limbs_c (.ref o_up_limbs) o_up_size o_up_limbs_c (.ref o_down_limbs) o_down_size o_down_limbs_c (.ref o_unit_limbs) o_unit_size o_unit_limbs_c) (ww_Sh_setUp g a1 o o_value o_value_limbs o_up o_up_limbs o_down o_down_limbs o_unit o_unit_limbs a1_size a1_negative a1_notANumber a1_infinite a1_c a1_q o_decimal_v (.ref o_value) (.ref o_unit) (.ref o_up) (.ref o_down) o_rest_v r.1 (.ref o_value_limbs) r.2.1 r.2.2.1 (.ref o_up_limbs) r.2.2.2.1 r.2.2.2.2.1 (.ref o_down_limbs) r.2.2.2.2.2.1 r.2.2.2.2.2.2.1 (.ref o_unit_limbs) r.2.2.2.2.2.2.2.1 r.2.2.2.2.2.2.2.2) s.heap.size) ([.ref o, .ref a1] : List Value).toArray s 0 0 (va_A (ww_Sh_setUp g a1 o o_value o_value_limbs o_up o_up_limbs o_down o_down_limbs o_unit o_unit_limbs a1_size a1_negative a1_notANumber a1_infinite a1_c a1_q o_decimal_v (.ref o_value) (.ref o_unit) (.ref o_up) (.ref o_down) o_rest_v o_point (.ref o_value_limbs) o_value_size o_value_limbs_c (.ref o_up_limbs) o_up_size o_up_limbs_c (.ref o_down_limbs) o_down_size o_down_limbs_c (.ref o_unit_limbs) o_unit_size o_unit_limbs_c) s.heap.size)) (F0 m 182 ls []) := by
    intro o_pointq o_value_sizeq o_value_limbs_cq o_up_sizeq o_up_limbs_cq o_down_sizeq o_down_limbs_cq o_unit_sizeq o_unit_limbs_cq ls H locs hl hS hP hD hf
    have hf : ((f_Bg_bitLength o_unit_sizeq o_unit_limbs_cq).bind fun u188 => (f_Bg_shiftLeft (((28 : Int32) - u188) &&& (31 : Int32)) o_value_sizeq o_value_limbs_cq).bind fun u203 => (f_Bg_shiftLeft (((28 : Int32) - u188) &&& (31 : Int32)) o_up_sizeq o_up_limbs_cq).bind fun u212 => (f_Bg_shiftLeft (((28 : Int32) - u188) &&& (31 : Int32)) o_down_sizeq o_down_limbs_cq).bind fun u221 => (f_Bg_shiftLeft (((28 : Int32) - u188) &&& (31 : Int32)) o_unit_sizeq o_unit_limbs_cq).bind fun u230 => some (o_pointq, u203.1, u203.2, u212.1, u212.2, u221.1, u221.2, u230.1, u230.2)) = some r := hf
    refine lv_bipush (v := 28) S.1 S.2.1 d_Sh_setUp_182 (by decide) ?_
    refine lv_aload_n S.1 S.2.1 d_Sh_setUp_184 rfl (lv_at hl 0 rfl) ?_
    refine gx_gf (v := .ref o_unit) S E hP 1 rfl rfl i_Sh 2 rfl wd_231 ⟨rfl, rfl, rfl⟩ rfl d_Sh_setUp_185 ?_
    obtain ⟨u188, hc188, hf⟩ := gx_bnd hf
    refine gx_Vi (ws2 := (ww_Sh_setUp g a1 o o_value o_value_limbs o_up o_up_limbs o_down o_down_limbs o_unit o_unit_limbs a1_size a1_negative a1_notANumber a1_infinite a1_c a1_q o_decimal_v (.ref o_value) (.ref o_unit) (.ref o_up) (.ref o_down) o_rest_v o_pointq (.ref o_value_limbs) o_value_sizeq o_value_limbs_cq (.ref o_up_limbs) o_up_sizeq o_up_limbs_cq (.ref o_down_limbs) o_down_sizeq o_down_limbs_cq (.ref o_unit_limbs) o_unit_sizeq o_unit_limbs_cq)) S E hS hP hD (c_Bg_bitLength l z D g o_unit o_unit_limbs o_unit_sizeq o_unit_limbs_cq u188 hc188) cal_Bg_bitLength wd_540 wd_541 wd_539 rfl [8, 9] rfl rfl rfl (gx_rc E hP 8 rfl rfl) rfl hl.1 rfl d_Sh_setUp_188 ⟨Nat.zero_le _, Nat.zero_le _⟩ rfl (fun H locs hS hP hD => ?_)
    refine lv_isub S.1 S.2.1 d_Sh_setUp_191 ?_
    refine lv_bipush (v := 31) S.1 S.2.1 d_Sh_setUp_192 (by decide) ?_
    refine lv_iand S.1 S.2.1 d_Sh_setUp_194 ?_
    refine lv_istore (lv' := [(5, .int (((28 : Int32) - u188) &&& (31 : Int32))), (0, .ref o)]) S.1 S.2.1 d_Sh_setUp_195 hl (by decide) rfl (fun ls hl => ?_)
    refine lv_aload_n S.1 S.2.1 d_Sh_setUp_197 rfl (lv_at hl 1 rfl) ?_
    refine gx_gf (v := .ref o_value) S E hP 1 rfl rfl i_Sh 1 rfl wd_230 ⟨rfl, rfl, rfl⟩ rfl d_Sh_setUp_198 ?_
    refine lv_iload S.1 S.2.1 d_Sh_setUp_201 (lv_at hl 0 rfl) ?_
    obtain ⟨u203, hc203, hf⟩ := gx_bnd hf
    refine gx_Vv (ws2 := (ww_Sh_setUp g a1 o o_value o_value_limbs o_up o_up_limbs o_down o_down_limbs o_unit o_unit_limbs a1_size a1_negative a1_notANumber a1_infinite a1_c a1_q o_decimal_v (.ref o_value) (.ref o_unit) (.ref o_up) (.ref o_down) o_rest_v o_pointq (.ref o_value_limbs) u203.1 u203.2 (.ref o_up_limbs) o_up_sizeq o_up_limbs_cq (.ref o_down_limbs) o_down_sizeq o_down_limbs_cq (.ref o_unit_limbs) o_unit_sizeq o_unit_limbs_cq)) S E hS hP hD (c_Bg_shiftLeft l z D g o_value o_value_limbs o_value_sizeq o_value_limbs_cq (((28 : Int32) - u188) &&& (31 : Int32)) u203 hc203) cal_Bg_shiftLeft wd_522 wd_523 wd_544 rfl [2, 3] rfl rfl rfl (gx_rc E hP 2 rfl rfl) rfl hl.1 rfl d_Sh_setUp_203 ⟨Nat.zero_le _, Nat.zero_le _⟩ rfl (fun H locs hS hP hD => ?_)
    refine lv_aload_n S.1 S.2.1 d_Sh_setUp_206 rfl (lv_at hl 1 rfl) ?_
    refine gx_gf (v := .ref o_up) S E hP 1 rfl rfl i_Sh 3 rfl wd_232 ⟨rfl, rfl, rfl⟩ rfl d_Sh_setUp_207 ?_
    refine lv_iload S.1 S.2.1 d_Sh_setUp_210 (lv_at hl 0 rfl) ?_
    obtain ⟨u212, hc212, hf⟩ := gx_bnd hf
    refine gx_Vv (ws2 := (ww_Sh_setUp g a1 o o_value o_value_limbs o_up o_up_limbs o_down o_down_limbs o_unit o_unit_limbs a1_size a1_negative a1_notANumber a1_infinite a1_c a1_q o_decimal_v (.ref o_value) (.ref o_unit) (.ref o_up) (.ref o_down) o_rest_v o_pointq (.ref o_value_limbs) u203.1 u203.2 (.ref o_up_limbs) u212.1 u212.2 (.ref o_down_limbs) o_down_sizeq o_down_limbs_cq (.ref o_unit_limbs) o_unit_sizeq o_unit_limbs_cq)) S E hS hP hD (c_Bg_shiftLeft l z D g o_up o_up_limbs o_up_sizeq o_up_limbs_cq (((28 : Int32) - u188) &&& (31 : Int32)) u212 hc212) cal_Bg_shiftLeft wd_522 wd_523 wd_544 rfl [4, 5] rfl rfl rfl (gx_rc E hP 4 rfl rfl) rfl hl.1 rfl d_Sh_setUp_212 ⟨Nat.zero_le _, Nat.zero_le _⟩ rfl (fun H locs hS hP hD => ?_)
    refine lv_aload_n S.1 S.2.1 d_Sh_setUp_215 rfl (lv_at hl 1 rfl) ?_
    refine gx_gf (v := .ref o_down) S E hP 1 rfl rfl i_Sh 4 rfl wd_233 ⟨rfl, rfl, rfl⟩ rfl d_Sh_setUp_216 ?_
    refine lv_iload S.1 S.2.1 d_Sh_setUp_219 (lv_at hl 0 rfl) ?_
    obtain ⟨u221, hc221, hf⟩ := gx_bnd hf
    refine gx_Vv (ws2 := (ww_Sh_setUp g a1 o o_value o_value_limbs o_up o_up_limbs o_down o_down_limbs o_unit o_unit_limbs a1_size a1_negative a1_notANumber a1_infinite a1_c a1_q o_decimal_v (.ref o_value) (.ref o_unit) (.ref o_up) (.ref o_down) o_rest_v o_pointq (.ref o_value_limbs) u203.1 u203.2 (.ref o_up_limbs) u212.1 u212.2 (.ref o_down_limbs) u221.1 u221.2 (.ref o_unit_limbs) o_unit_sizeq o_unit_limbs_cq)) S E hS hP hD (c_Bg_shiftLeft l z D g o_down o_down_limbs o_down_sizeq o_down_limbs_cq (((28 : Int32) - u188) &&& (31 : Int32)) u221 hc221) cal_Bg_shiftLeft wd_522 wd_523 wd_544 rfl [6, 7] rfl rfl rfl (gx_rc E hP 6 rfl rfl) rfl hl.1 rfl d_Sh_setUp_221 ⟨Nat.zero_le _, Nat.zero_le _⟩ rfl (fun H locs hS hP hD => ?_)
    refine lv_aload_n S.1 S.2.1 d_Sh_setUp_224 rfl (lv_at hl 1 rfl) ?_
    refine gx_gf (v := .ref o_unit) S E hP 1 rfl rfl i_Sh 2 rfl wd_231 ⟨rfl, rfl, rfl⟩ rfl d_Sh_setUp_225 ?_
    refine lv_iload S.1 S.2.1 d_Sh_setUp_228 (lv_at hl 0 rfl) ?_
    obtain ⟨u230, hc230, hf⟩ := gx_bnd hf
    refine gx_Vv (ws2 := (ww_Sh_setUp g a1 o o_value o_value_limbs o_up o_up_limbs o_down o_down_limbs o_unit o_unit_limbs a1_size a1_negative a1_notANumber a1_infinite a1_c a1_q o_decimal_v (.ref o_value) (.ref o_unit) (.ref o_up) (.ref o_down) o_rest_v o_pointq (.ref o_value_limbs) u203.1 u203.2 (.ref o_up_limbs) u212.1 u212.2 (.ref o_down_limbs) u221.1 u221.2 (.ref o_unit_limbs) u230.1 u230.2)) S E hS hP hD (c_Bg_shiftLeft l z D g o_unit o_unit_limbs o_unit_sizeq o_unit_limbs_cq (((28 : Int32) - u188) &&& (31 : Int32)) u230 hc230) cal_Bg_shiftLeft wd_522 wd_523 wd_544 rfl [8, 9] rfl rfl rfl (gx_rc E hP 8 rfl rfl) rfl hl.1 rfl d_Sh_setUp_230 ⟨Nat.zero_le _, Nat.zero_le _⟩ rfl (fun H locs hS hP hD => ?_)
    obtain rfl := Option.some.inj hf
    exact gx_rv S hr hlk hS hP hD d_Sh_setUp_233
  have c_121 : ∀ (v3 : Int32) (t0 : Int32) (t1 : Int32) (t2 : Int64) (o_pointq : Int32) (o_value_sizeq : Int32) (o_value_limbs_cq : Nat → Int32) (o_up_sizeq : Int32) (o_up_limbs_cq : Nat → Int32) (o_down_sizeq : Int32) (o_down_limbs_cq : Nat → Int32) (o_unit_sizeq : Int32) (o_unit_limbs_cq : Nat → Int32) (ls : Array Slot) (H : Heap) (locs : List Loc), lv_has ls 6 [(0, .ref o), (3, .int v3)] → va_S (va_A (ww_Sh_setUp g a1 o o_value o_value_limbs o_up o_up_limbs o_down o_down_limbs o_unit o_unit_limbs a1_size a1_negative a1_notANumber a1_infinite a1_c a1_q o_decimal_v (.ref o_value) (.ref o_unit) (.ref o_up) (.ref o_down) o_rest_v o_point (.ref o_value_limbs) o_value_size o_value_limbs_c (.ref o_up_limbs) o_up_size o_up_limbs_c (.ref o_down_limbs) o_down_size o_down_limbs_c (.ref o_unit_limbs) o_unit_size o_unit_limbs_c) s.heap.size) s.heap H locs → va_P D vwC (ww_Sh_setUp g a1 o o_value o_value_limbs o_up o_up_limbs o_down o_down_limbs o_unit o_unit_limbs a1_size a1_negative a1_notANumber a1_infinite a1_c a1_q o_decimal_v (.ref o_value) (.ref o_unit) (.ref o_up) (.ref o_down) o_rest_v o_pointq (.ref o_value_limbs) o_value_sizeq o_value_limbs_cq (.ref o_up_limbs) o_up_sizeq o_up_limbs_cq (.ref o_down_limbs) o_down_sizeq o_down_limbs_cq (.ref o_unit_limbs) o_unit_sizeq o_unit_limbs_cq) H → va_D (va_A (ww_Sh_setUp g a1 o o_value o_value_limbs o_up o_up_limbs o_down o_down_limbs o_unit o_unit_limbs a1_size a1_negative a1_notANumber a1_infinite a1_c a1_q o_decimal_v (.ref o_value) (.ref o_unit) (.ref o_up) (.ref o_down) o_rest_v o_point (.ref o_value_limbs) o_value_size o_value_limbs_c (.ref o_up_limbs) o_up_size o_up_limbs_c (.ref o_down_limbs) o_down_size o_down_limbs_c (.ref o_unit_limbs) o_unit_size o_unit_limbs_c) s.heap.size) (ww_Sh_setUp g a1 o o_value o_value_limbs o_up o_up_limbs o_down o_down_limbs o_unit o_unit_limbs a1_size a1_negative a1_notANumber a1_infinite a1_c a1_q o_decimal_v (.ref o_value) (.ref o_unit) (.ref o_up) (.ref o_down) o_rest_v o_pointq (.ref o_value_limbs) o_value_sizeq o_value_limbs_cq (.ref o_up_limbs) o_up_sizeq o_up_limbs_cq (.ref o_down_limbs) o_down_sizeq o_down_limbs_cq (.ref o_unit_limbs) o_unit_sizeq o_unit_limbs_cq) → (f_Sh_setUp_121 v3 t0 t1 t2 a1_q a1_c o_pointq o_value_sizeq o_value_limbs_cq o_up_sizeq o_up_limbs_cq a1_size o_down_sizeq o_down_limbs_cq o_unit_sizeq o_unit_limbs_cq) = some r → W p l e ({ frames := 3, cells := 0, slots := 0, locals := 72 } : Room) s m ([.ref o, .ref a1] : List Value).toArray below meth c H locs 0 0 (MQ below (gx_Qv D (ww_Sh_setUp g a1 o o_value o_value_limbs o_up o_up_limbs o_down o_down_limbs o_unit o_unit_limbs a1_size a1_negative a1_notANumber a1_infinite a1_c a1_q o_decimal_v (.ref o_value) (.ref o_unit) (.ref o_up) (.ref o_down) o_rest_v o_point (.ref o_value_limbs) o_value_size o_value_limbs_c (.ref o_up_limbs) o_up_size o_up_limbs_c (.ref o_down_limbs) o_down_size o_down_limbs_c (.ref o_unit_limbs) o_unit_size o_unit_limbs_c) (ww_Sh_setUp g a1 o o_value o_value_limbs o_up o_up_limbs o_down o_down_limbs o_unit o_unit_limbs a1_size a1_negative a1_notANumber a1_infinite a1_c a1_q o_decimal_v (.ref o_value) (.ref o_unit) (.ref o_up) (.ref o_down) o_rest_v r.1 (.ref o_value_limbs) r.2.1 r.2.2.1 (.ref o_up_limbs) r.2.2.2.1 r.2.2.2.2.1 (.ref o_down_limbs) r.2.2.2.2.2.1 r.2.2.2.2.2.2.1 (.ref o_unit_limbs) r.2.2.2.2.2.2.2.1 r.2.2.2.2.2.2.2.2) s.heap.size) ([.ref o, .ref a1] : List Value).toArray s 0 0 (va_A (ww_Sh_setUp g a1 o o_value o_value_limbs o_up o_up_limbs o_down o_down_limbs o_unit o_unit_limbs a1_size a1_negative a1_notANumber a1_infinite a1_c a1_q o_decimal_v (.ref o_value) (.ref o_unit) (.ref o_up) (.ref o_down) o_rest_v o_point (.ref o_value_limbs) o_value_size o_value_limbs_c (.ref o_up_limbs) o_up_size o_up_limbs_c (.ref o_down_limbs) o_down_size o_down_limbs_c (.ref o_unit_limbs) o_unit_size o_unit_limbs_c) s.heap.size)) (F0 m 121 ls [.int t0, .int t1, .long t2, .ref o_down]) := by
    intro v3 t0 t1 t2 o_pointq o_value_sizeq o_value_limbs_cq o_up_sizeq o_up_limbs_cq o_down_sizeq o_down_limbs_cq o_unit_sizeq o_unit_limbs_cq ls H locs hl hS hP hD hf
    have hf : ((f_Bg_setTimes t2 t1 t0 o_down_sizeq o_down_limbs_cq).bind fun u121 => (f_JMath_max o_pointq (0 : Int32)).bind fun u134 => (f_JMath_max (-v3) (0 : Int32)).bind fun u140 => (f_Bg_setTimes (1 : Int64) u134 (u140 + (2 : Int32)) o_unit_sizeq o_unit_limbs_cq).bind fun u145 => (f_Bg_against o_value_sizeq u145.1 o_value_limbs_cq u145.2).bind fun u156 => if u156 < 0 then (f_Sh_setUp_182 a1_q a1_c o_pointq o_value_sizeq o_value_limbs_cq o_up_sizeq o_up_limbs_cq a1_size u121.1 u121.2 u145.1 u145.2) else ((f_Bg_timesPlus (10 : Int32) (0 : Int32) u145.1 u145.2).bind fun u169 => f_Sh_setUp_182 a1_q a1_c (o_pointq + (1 : Int32)) o_value_sizeq o_value_limbs_cq o_up_sizeq o_up_limbs_cq a1_size u121.1 u121.2 u169.1 u169.2)) = some r := hf
    obtain ⟨u121, hc121, hf⟩ := gx_bnd hf
    refine gx_Vv (ws2 := (ww_Sh_setUp g a1 o o_value o_value_limbs o_up o_up_limbs o_down o_down_limbs o_unit o_unit_limbs a1_size a1_negative a1_notANumber a1_infinite a1_c a1_q o_decimal_v (.ref o_value) (.ref o_unit) (.ref o_up) (.ref o_down) o_rest_v o_pointq (.ref o_value_limbs) o_value_sizeq o_value_limbs_cq (.ref o_up_limbs) o_up_sizeq o_up_limbs_cq (.ref o_down_limbs) u121.1 u121.2 (.ref o_unit_limbs) o_unit_sizeq o_unit_limbs_cq)) S E hS hP hD (c_Bg_setTimes l z D g o_down o_down_limbs o_down_sizeq o_down_limbs_cq t2 t1 t0 u121 hc121) cal_Bg_setTimes wd_499 wd_500 wd_498 rfl [6, 7] rfl rfl rfl (gx_rc E hP 6 rfl rfl) rfl hl.1 rfl d_Sh_setUp_121 ⟨Nat.zero_le _, Nat.zero_le _⟩ rfl (fun H locs hS hP hD => ?_)
    refine lv_aload_n S.1 S.2.1 d_Sh_setUp_124 rfl (lv_at hl 0 rfl) ?_
    refine gx_gf (v := .ref o_unit) S E hP 1 rfl rfl i_Sh 2 rfl wd_231 ⟨rfl, rfl, rfl⟩ rfl d_Sh_setUp_125 ?_
    refine lv_lconst (v := 1) S.1 S.2.1 d_Sh_setUp_128 (by decide) ?_
    refine lv_aload_n S.1 S.2.1 d_Sh_setUp_129 rfl (lv_at hl 0 rfl) ?_
    refine gx_gf (v := .int o_pointq) S E hP 1 rfl rfl i_Sh 6 rfl wd_235 ⟨rfl, rfl, rfl⟩ rfl d_Sh_setUp_130 ?_
    refine lv_iconst (v := 0) S.1 S.2.1 d_Sh_setUp_133 (by decide) ?_
    obtain ⟨u134, hc134, hf⟩ := gx_bnd hf
    refine gx_Si (ws2 := (ww_Sh_setUp g a1 o o_value o_value_limbs o_up o_up_limbs o_down o_down_limbs o_unit o_unit_limbs a1_size a1_negative a1_notANumber a1_infinite a1_c a1_q o_decimal_v (.ref o_value) (.ref o_unit) (.ref o_up) (.ref o_down) o_rest_v o_pointq (.ref o_value_limbs) o_value_sizeq o_value_limbs_cq (.ref o_up_limbs) o_up_sizeq o_up_limbs_cq (.ref o_down_limbs) u121.1 u121.2 (.ref o_unit_limbs) o_unit_sizeq o_unit_limbs_cq)) S E hS hP hD (c_JMath_max l z D g o_pointq (0 : Int32) u134 hc134) cal_JMath_max wd_411 wd_497 rfl [] rfl rfl rfl rfl hl.1 rfl d_Sh_setUp_134 ⟨Nat.zero_le _, Nat.zero_le _⟩ rfl (fun H locs hS hP hD => ?_)
    refine lv_iload_n S.1 S.2.1 d_Sh_setUp_137 rfl (lv_at hl 1 rfl) ?_
    refine lv_ineg S.1 S.2.1 d_Sh_setUp_138 ?_
    refine lv_iconst (v := 0) S.1 S.2.1 d_Sh_setUp_139 (by decide) ?_
    obtain ⟨u140, hc140, hf⟩ := gx_bnd hf
    refine gx_Si (ws2 := (ww_Sh_setUp g a1 o o_value o_value_limbs o_up o_up_limbs o_down o_down_limbs o_unit o_unit_limbs a1_size a1_negative a1_notANumber a1_infinite a1_c a1_q o_decimal_v (.ref o_value) (.ref o_unit) (.ref o_up) (.ref o_down) o_rest_v o_pointq (.ref o_value_limbs) o_value_sizeq o_value_limbs_cq (.ref o_up_limbs) o_up_sizeq o_up_limbs_cq (.ref o_down_limbs) u121.1 u121.2 (.ref o_unit_limbs) o_unit_sizeq o_unit_limbs_cq)) S E hS hP hD (c_JMath_max l z D g (-v3) (0 : Int32) u140 hc140) cal_JMath_max wd_411 wd_497 rfl [] rfl rfl rfl rfl hl.1 rfl d_Sh_setUp_140 ⟨Nat.zero_le _, Nat.zero_le _⟩ rfl (fun H locs hS hP hD => ?_)
    refine lv_iconst (v := 2) S.1 S.2.1 d_Sh_setUp_143 (by decide) ?_
    refine lv_iadd S.1 S.2.1 d_Sh_setUp_144 ?_
    obtain ⟨u145, hc145, hf⟩ := gx_bnd hf
    refine gx_Vv (ws2 := (ww_Sh_setUp g a1 o o_value o_value_limbs o_up o_up_limbs o_down o_down_limbs o_unit o_unit_limbs a1_size a1_negative a1_notANumber a1_infinite a1_c a1_q o_decimal_v (.ref o_value) (.ref o_unit) (.ref o_up) (.ref o_down) o_rest_v o_pointq (.ref o_value_limbs) o_value_sizeq o_value_limbs_cq (.ref o_up_limbs) o_up_sizeq o_up_limbs_cq (.ref o_down_limbs) u121.1 u121.2 (.ref o_unit_limbs) u145.1 u145.2)) S E hS hP hD (c_Bg_setTimes l z D g o_unit o_unit_limbs o_unit_sizeq o_unit_limbs_cq (1 : Int64) u134 (u140 + (2 : Int32)) u145 hc145) cal_Bg_setTimes wd_499 wd_500 wd_498 rfl [8, 9] rfl rfl rfl (gx_rc E hP 8 rfl rfl) rfl hl.1 rfl d_Sh_setUp_145 ⟨Nat.zero_le _, Nat.zero_le _⟩ rfl (fun H locs hS hP hD => ?_)
    refine lv_aload_n S.1 S.2.1 d_Sh_setUp_148 rfl (lv_at hl 0 rfl) ?_
    refine gx_gf (v := .ref o_value) S E hP 1 rfl rfl i_Sh 1 rfl wd_230 ⟨rfl, rfl, rfl⟩ rfl d_Sh_setUp_149 ?_
    refine lv_aload_n S.1 S.2.1 d_Sh_setUp_152 rfl (lv_at hl 0 rfl) ?_
    refine gx_gf (v := .ref o_unit) S E hP 1 rfl rfl i_Sh 2 rfl wd_231 ⟨rfl, rfl, rfl⟩ rfl d_Sh_setUp_153 ?_
    obtain ⟨u156, hc156, hf⟩ := gx_bnd hf
    refine gx_Vi (ws2 := (ww_Sh_setUp g a1 o o_value o_value_limbs o_up o_up_limbs o_down o_down_limbs o_unit o_unit_limbs a1_size a1_negative a1_notANumber a1_infinite a1_c a1_q o_decimal_v (.ref o_value) (.ref o_unit) (.ref o_up) (.ref o_down) o_rest_v o_pointq (.ref o_value_limbs) o_value_sizeq o_value_limbs_cq (.ref o_up_limbs) o_up_sizeq o_up_limbs_cq (.ref o_down_limbs) u121.1 u121.2 (.ref o_unit_limbs) u145.1 u145.2)) S E hS hP hD (c_Bg_against l z D g o_value o_unit o_value_limbs o_unit_limbs o_value_sizeq u145.1 o_value_limbs_cq u145.2 u156 hc156) cal_Bg_against wd_535 wd_536 wd_534 rfl [2, 8, 3, 9] rfl rfl rfl (gx_rc E hP 2 rfl rfl) rfl hl.1 rfl d_Sh_setUp_156 ⟨Nat.zero_le _, Nat.zero_le _⟩ rfl (fun H locs hS hP hD => ?_)
    refine lv_if_lt (tgt := 182) S.1 S.2.1 d_Sh_setUp_159 (by decide) (fun h => ?_) (fun h => ?_)
    ·
      have hf := gx_ifp h hf
      exact c_182 o_pointq o_value_sizeq o_value_limbs_cq o_up_sizeq o_up_limbs_cq u121.1 u121.2 u145.1 u145.2 ls _ _ (lv_sub hl [0] rfl) hS hP hD hf
    ·
      have hf := gx_ifn h hf
      refine lv_aload_n S.1 S.2.1 d_Sh_setUp_162 rfl (lv_at hl 0 rfl) ?_
      refine gx_gf (v := .ref o_unit) S E hP 1 rfl rfl i_Sh 2 rfl wd_231 ⟨rfl, rfl, rfl⟩ rfl d_Sh_setUp_163 ?_
      refine lv_bipush (v := 10) S.1 S.2.1 d_Sh_setUp_166 (by decide) ?_
      refine lv_iconst (v := 0) S.1 S.2.1 d_Sh_setUp_168 (by decide) ?_
      obtain ⟨u169, hc169, hf⟩ := gx_bnd hf
      refine gx_Vv (ws2 := (ww_Sh_setUp g a1 o o_value o_value_limbs o_up o_up_limbs o_down o_down_limbs o_unit o_unit_limbs a1_size a1_negative a1_notANumber a1_infinite a1_c a1_q o_decimal_v (.ref o_value) (.ref o_unit) (.ref o_up) (.ref o_down) o_rest_v o_pointq (.ref o_value_limbs) o_value_sizeq o_value_limbs_cq (.ref o_up_limbs) o_up_sizeq o_up_limbs_cq (.ref o_down_limbs) u121.1 u121.2 (.ref o_unit_limbs) u169.1 u169.2)) S E hS hP hD (c_Bg_timesPlus l z D g o_unit o_unit_limbs u145.1 u145.2 (10 : Int32) (0 : Int32) u169 hc169) cal_Bg_timesPlus wd_517 wd_518 wd_538 rfl [8, 9] rfl rfl rfl (gx_rc E hP 8 rfl rfl) rfl hl.1 rfl d_Sh_setUp_169 ⟨Nat.zero_le _, Nat.zero_le _⟩ rfl (fun H locs hS hP hD => ?_)
      refine lv_aload_n S.1 S.2.1 d_Sh_setUp_172 rfl (lv_at hl 0 rfl) ?_
      refine lv_dup S.1 S.2.1 d_Sh_setUp_173 rfl ?_
      refine gx_gf (v := .int o_pointq) S E hP 1 rfl rfl i_Sh 6 rfl wd_235 ⟨rfl, rfl, rfl⟩ rfl d_Sh_setUp_174 ?_
      refine lv_iconst (v := 1) S.1 S.2.1 d_Sh_setUp_177 (by decide) ?_
      refine lv_iadd S.1 S.2.1 d_Sh_setUp_178 ?_
      refine gx_pf (v := .int (o_pointq + (1 : Int32))) (ws2 := (ww_Sh_setUp g a1 o o_value o_value_limbs o_up o_up_limbs o_down o_down_limbs o_unit o_unit_limbs a1_size a1_negative a1_notANumber a1_infinite a1_c a1_q o_decimal_v (.ref o_value) (.ref o_unit) (.ref o_up) (.ref o_down) o_rest_v (o_pointq + (1 : Int32)) (.ref o_value_limbs) o_value_sizeq o_value_limbs_cq (.ref o_up_limbs) o_up_sizeq o_up_limbs_cq (.ref o_down_limbs) u121.1 u121.2 (.ref o_unit_limbs) u169.1 u169.2)) S E hS hP hD 1 rfl rfl i_Sh k_Sh n_Sh 6 rfl wd_235 ⟨rfl, rfl, rfl, rfl⟩ rfl rfl rfl d_Sh_setUp_179 rfl (fun H locs hS hP hD => ?_)
      exact c_182 (o_pointq + (1 : Int32)) o_value_sizeq o_value_limbs_cq o_up_sizeq o_up_limbs_cq u121.1 u121.2 u169.1 u169.2 ls _ _ (lv_sub hl [0] rfl) hS hP hD hf
  have hf : ((f_JLong_numberOfLeadingZeros a1_c).bind fun u11 => (f_JMath_max (a1_q - (((((a1_q + (63 : Int32)) - u11) * (78913 : Int32)) >>> ((18 : Int32) &&& 31)) + (1 : Int32))) (0 : Int32)).bind fun u41 => (f_JMath_max (-(((((a1_q + (63 : Int32)) - u11) * (78913 : Int32)) >>> ((18 : Int32) &&& 31)) + (1 : Int32))) (0 : Int32)).bind fun u60 => (f_Bg_setTimes a1_c u60 (u41 + (2 : Int32)) o_value_size o_value_limbs_c).bind fun u67 => (f_JMath_max (-(((((a1_q + (63 : Int32)) - u11) * (78913 : Int32)) >>> ((18 : Int32) &&& 31)) + (1 : Int32))) (0 : Int32)).bind fun u81 => (f_Bg_setTimes (1 : Int64) u81 (u41 + (1 : Int32)) o_up_size o_up_limbs_c).bind fun u88 => (f_JMath_max (-(((((a1_q + (63 : Int32)) - u11) * (78913 : Int32)) >>> ((18 : Int32) &&& 31)) + (1 : Int32))) (0 : Int32)).bind fun u102 => (f_Bi_isUneven a1_c a1_size a1_q).bind fun u106 => if u106 = 0 then (f_Sh_setUp_121 (a1_q - (((((a1_q + (63 : Int32)) - u11) * (78913 : Int32)) >>> ((18 : Int32) &&& 31)) + (1 : Int32))) (u41 + (1 : Int32)) u102 (1 : Int64) a1_q a1_c (((((a1_q + (63 : Int32)) - u11) * (78913 : Int32)) >>> ((18 : Int32) &&& 31)) + (1 : Int32)) u67.1 u67.2 u88.1 u88.2 a1_size o_down_size o_down_limbs_c o_unit_size o_unit_limbs_c) else (f_Sh_setUp_121 (a1_q - (((((a1_q + (63 : Int32)) - u11) * (78913 : Int32)) >>> ((18 : Int32) &&& 31)) + (1 : Int32))) u41 u102 (1 : Int64) a1_q a1_c (((((a1_q + (63 : Int32)) - u11) * (78913 : Int32)) >>> ((18 : Int32) &&& 31)) + (1 : Int32)) u67.1 u67.2 u88.1 u88.2 a1_size o_down_size o_down_limbs_c o_unit_size o_unit_limbs_c)) = some r := hf
  refine lv_aload_n S.1 S.2.1 d_Sh_setUp_0 rfl (lv_at hl 1 rfl) ?_
  refine gx_gf (v := .int a1_q) S E hP 0 rfl rfl i_Bi 5 rfl wd_179 ⟨rfl, rfl, rfl⟩ rfl d_Sh_setUp_1 ?_
  refine lv_bipush (v := 63) S.1 S.2.1 d_Sh_setUp_4 (by decide) ?_
  refine lv_iadd S.1 S.2.1 d_Sh_setUp_6 ?_
  refine lv_aload_n S.1 S.2.1 d_Sh_setUp_7 rfl (lv_at hl 1 rfl) ?_
  refine gx_gf (v := .long a1_c) S E hP 0 rfl rfl i_Bi 4 rfl wd_176 ⟨rfl, rfl, rfl⟩ rfl d_Sh_setUp_8 ?_
  obtain ⟨u11, hc11, hf⟩ := gx_bnd hf
  refine gx_Si (ws2 := (ww_Sh_setUp g a1 o o_value o_value_limbs o_up o_up_limbs o_down o_down_limbs o_unit o_unit_limbs a1_size a1_negative a1_notANumber a1_infinite a1_c a1_q o_decimal_v (.ref o_value) (.ref o_unit) (.ref o_up) (.ref o_down) o_rest_v o_point (.ref o_value_limbs) o_value_size o_value_limbs_c (.ref o_up_limbs) o_up_size o_up_limbs_c (.ref o_down_limbs) o_down_size o_down_limbs_c (.ref o_unit_limbs) o_unit_size o_unit_limbs_c)) S E hS hP hD (c_JLong_numberOfLeadingZeros l z D g a1_c u11 hc11) cal_JLong_numberOfLeadingZeros wd_490 wd_489 rfl [] rfl rfl rfl rfl hl.1 rfl d_Sh_setUp_11 ⟨Nat.zero_le _, Nat.zero_le _⟩ rfl (fun H locs hS hP hD => ?_)
  refine lv_isub S.1 S.2.1 d_Sh_setUp_14 ?_
  refine lv_istore_n (lv' := [(2, .int ((a1_q + (63 : Int32)) - u11)), (0, .ref o), (1, .ref a1)]) S.1 S.2.1 d_Sh_setUp_15 rfl hl (by decide) rfl (fun ls hl => ?_)
  refine lv_aload_n S.1 S.2.1 d_Sh_setUp_16 rfl (lv_at hl 1 rfl) ?_
  refine lv_iload_n S.1 S.2.1 d_Sh_setUp_17 rfl (lv_at hl 0 rfl) ?_
  refine lv_ldc (v := 78913) S.1 S.2.1 S.2.2.2.1 (S.2.2.2.2 _ wd_496) d_Sh_setUp_18 ?_
  refine lv_imul S.1 S.2.1 d_Sh_setUp_20 ?_
  refine lv_bipush (v := 18) S.1 S.2.1 d_Sh_setUp_21 (by decide) ?_
  refine lv_ishr S.1 S.2.1 d_Sh_setUp_23 ?_
  refine lv_iconst (v := 1) S.1 S.2.1 d_Sh_setUp_24 (by decide) ?_
  refine lv_iadd S.1 S.2.1 d_Sh_setUp_25 ?_
  refine gx_pf (v := .int (((((a1_q + (63 : Int32)) - u11) * (78913 : Int32)) >>> ((18 : Int32) &&& 31)) + (1 : Int32))) (ws2 := (ww_Sh_setUp g a1 o o_value o_value_limbs o_up o_up_limbs o_down o_down_limbs o_unit o_unit_limbs a1_size a1_negative a1_notANumber a1_infinite a1_c a1_q o_decimal_v (.ref o_value) (.ref o_unit) (.ref o_up) (.ref o_down) o_rest_v (((((a1_q + (63 : Int32)) - u11) * (78913 : Int32)) >>> ((18 : Int32) &&& 31)) + (1 : Int32)) (.ref o_value_limbs) o_value_size o_value_limbs_c (.ref o_up_limbs) o_up_size o_up_limbs_c (.ref o_down_limbs) o_down_size o_down_limbs_c (.ref o_unit_limbs) o_unit_size o_unit_limbs_c)) S E hS hP hD 1 rfl rfl i_Sh k_Sh n_Sh 6 rfl wd_235 ⟨rfl, rfl, rfl, rfl⟩ rfl rfl rfl d_Sh_setUp_26 rfl (fun H locs hS hP hD => ?_)
  refine lv_aload_n S.1 S.2.1 d_Sh_setUp_29 rfl (lv_at hl 2 rfl) ?_
  refine gx_gf (v := .int a1_q) S E hP 0 rfl rfl i_Bi 5 rfl wd_179 ⟨rfl, rfl, rfl⟩ rfl d_Sh_setUp_30 ?_
  refine lv_aload_n S.1 S.2.1 d_Sh_setUp_33 rfl (lv_at hl 1 rfl) ?_
  refine gx_gf (v := .int (((((a1_q + (63 : Int32)) - u11) * (78913 : Int32)) >>> ((18 : Int32) &&& 31)) + (1 : Int32))) S E hP 1 rfl rfl i_Sh 6 rfl wd_235 ⟨rfl, rfl, rfl⟩ rfl d_Sh_setUp_34 ?_
  refine lv_isub S.1 S.2.1 d_Sh_setUp_37 ?_
  refine lv_istore_n (lv' := [(3, .int (a1_q - (((((a1_q + (63 : Int32)) - u11) * (78913 : Int32)) >>> ((18 : Int32) &&& 31)) + (1 : Int32)))), (2, .int ((a1_q + (63 : Int32)) - u11)), (0, .ref o), (1, .ref a1)]) S.1 S.2.1 d_Sh_setUp_38 rfl hl (by decide) rfl (fun ls hl => ?_)
  refine lv_iload_n S.1 S.2.1 d_Sh_setUp_39 rfl (lv_at hl 0 rfl) ?_
  refine lv_iconst (v := 0) S.1 S.2.1 d_Sh_setUp_40 (by decide) ?_
  obtain ⟨u41, hc41, hf⟩ := gx_bnd hf
  refine gx_Si (ws2 := (ww_Sh_setUp g a1 o o_value o_value_limbs o_up o_up_limbs o_down o_down_limbs o_unit o_unit_limbs a1_size a1_negative a1_notANumber a1_infinite a1_c a1_q o_decimal_v (.ref o_value) (.ref o_unit) (.ref o_up) (.ref o_down) o_rest_v (((((a1_q + (63 : Int32)) - u11) * (78913 : Int32)) >>> ((18 : Int32) &&& 31)) + (1 : Int32)) (.ref o_value_limbs) o_value_size o_value_limbs_c (.ref o_up_limbs) o_up_size o_up_limbs_c (.ref o_down_limbs) o_down_size o_down_limbs_c (.ref o_unit_limbs) o_unit_size o_unit_limbs_c)) S E hS hP hD (c_JMath_max l z D g (a1_q - (((((a1_q + (63 : Int32)) - u11) * (78913 : Int32)) >>> ((18 : Int32) &&& 31)) + (1 : Int32))) (0 : Int32) u41 hc41) cal_JMath_max wd_411 wd_497 rfl [] rfl rfl rfl rfl hl.1 rfl d_Sh_setUp_41 ⟨Nat.zero_le _, Nat.zero_le _⟩ rfl (fun H locs hS hP hD => ?_)
  refine lv_istore (lv' := [(4, .int u41), (3, .int (a1_q - (((((a1_q + (63 : Int32)) - u11) * (78913 : Int32)) >>> ((18 : Int32) &&& 31)) + (1 : Int32)))), (2, .int ((a1_q + (63 : Int32)) - u11)), (0, .ref o), (1, .ref a1)]) S.1 S.2.1 d_Sh_setUp_44 hl (by decide) rfl (fun ls hl => ?_)
  refine lv_aload_n S.1 S.2.1 d_Sh_setUp_46 rfl (lv_at hl 3 rfl) ?_
  refine gx_gf (v := .ref o_value) S E hP 1 rfl rfl i_Sh 1 rfl wd_230 ⟨rfl, rfl, rfl⟩ rfl d_Sh_setUp_47 ?_
  refine lv_aload_n S.1 S.2.1 d_Sh_setUp_50 rfl (lv_at hl 4 rfl) ?_
  refine gx_gf (v := .long a1_c) S E hP 0 rfl rfl i_Bi 4 rfl wd_176 ⟨rfl, rfl, rfl⟩ rfl d_Sh_setUp_51 ?_
  refine lv_aload_n S.1 S.2.1 d_Sh_setUp_54 rfl (lv_at hl 3 rfl) ?_
  refine gx_gf (v := .int (((((a1_q + (63 : Int32)) - u11) * (78913 : Int32)) >>> ((18 : Int32) &&& 31)) + (1 : Int32))) S E hP 1 rfl rfl i_Sh 6 rfl wd_235 ⟨rfl, rfl, rfl⟩ rfl d_Sh_setUp_55 ?_
  refine lv_ineg S.1 S.2.1 d_Sh_setUp_58 ?_
  refine lv_iconst (v := 0) S.1 S.2.1 d_Sh_setUp_59 (by decide) ?_
  obtain ⟨u60, hc60, hf⟩ := gx_bnd hf
  refine gx_Si (ws2 := (ww_Sh_setUp g a1 o o_value o_value_limbs o_up o_up_limbs o_down o_down_limbs o_unit o_unit_limbs a1_size a1_negative a1_notANumber a1_infinite a1_c a1_q o_decimal_v (.ref o_value) (.ref o_unit) (.ref o_up) (.ref o_down) o_rest_v (((((a1_q + (63 : Int32)) - u11) * (78913 : Int32)) >>> ((18 : Int32) &&& 31)) + (1 : Int32)) (.ref o_value_limbs) o_value_size o_value_limbs_c (.ref o_up_limbs) o_up_size o_up_limbs_c (.ref o_down_limbs) o_down_size o_down_limbs_c (.ref o_unit_limbs) o_unit_size o_unit_limbs_c)) S E hS hP hD (c_JMath_max l z D g (-(((((a1_q + (63 : Int32)) - u11) * (78913 : Int32)) >>> ((18 : Int32) &&& 31)) + (1 : Int32))) (0 : Int32) u60 hc60) cal_JMath_max wd_411 wd_497 rfl [] rfl rfl rfl rfl hl.1 rfl d_Sh_setUp_60 ⟨Nat.zero_le _, Nat.zero_le _⟩ rfl (fun H locs hS hP hD => ?_)
  refine lv_iload S.1 S.2.1 d_Sh_setUp_63 (lv_at hl 0 rfl) ?_
  refine lv_iconst (v := 2) S.1 S.2.1 d_Sh_setUp_65 (by decide) ?_
  refine lv_iadd S.1 S.2.1 d_Sh_setUp_66 ?_
  obtain ⟨u67, hc67, hf⟩ := gx_bnd hf
  refine gx_Vv (ws2 := (ww_Sh_setUp g a1 o o_value o_value_limbs o_up o_up_limbs o_down o_down_limbs o_unit o_unit_limbs a1_size a1_negative a1_notANumber a1_infinite a1_c a1_q o_decimal_v (.ref o_value) (.ref o_unit) (.ref o_up) (.ref o_down) o_rest_v (((((a1_q + (63 : Int32)) - u11) * (78913 : Int32)) >>> ((18 : Int32) &&& 31)) + (1 : Int32)) (.ref o_value_limbs) u67.1 u67.2 (.ref o_up_limbs) o_up_size o_up_limbs_c (.ref o_down_limbs) o_down_size o_down_limbs_c (.ref o_unit_limbs) o_unit_size o_unit_limbs_c)) S E hS hP hD (c_Bg_setTimes l z D g o_value o_value_limbs o_value_size o_value_limbs_c a1_c u60 (u41 + (2 : Int32)) u67 hc67) cal_Bg_setTimes wd_499 wd_500 wd_498 rfl [2, 3] rfl rfl rfl (gx_rc E hP 2 rfl rfl) rfl hl.1 rfl d_Sh_setUp_67 ⟨Nat.zero_le _, Nat.zero_le _⟩ rfl (fun H locs hS hP hD => ?_)
  refine lv_aload_n S.1 S.2.1 d_Sh_setUp_70 rfl (lv_at hl 3 rfl) ?_
  refine gx_gf (v := .ref o_up) S E hP 1 rfl rfl i_Sh 3 rfl wd_232 ⟨rfl, rfl, rfl⟩ rfl d_Sh_setUp_71 ?_
  refine lv_lconst (v := 1) S.1 S.2.1 d_Sh_setUp_74 (by decide) ?_
  refine lv_aload_n S.1 S.2.1 d_Sh_setUp_75 rfl (lv_at hl 3 rfl) ?_
  refine gx_gf (v := .int (((((a1_q + (63 : Int32)) - u11) * (78913 : Int32)) >>> ((18 : Int32) &&& 31)) + (1 : Int32))) S E hP 1 rfl rfl i_Sh 6 rfl wd_235 ⟨rfl, rfl, rfl⟩ rfl d_Sh_setUp_76 ?_
  refine lv_ineg S.1 S.2.1 d_Sh_setUp_79 ?_
  refine lv_iconst (v := 0) S.1 S.2.1 d_Sh_setUp_80 (by decide) ?_
  obtain ⟨u81, hc81, hf⟩ := gx_bnd hf
  refine gx_Si (ws2 := (ww_Sh_setUp g a1 o o_value o_value_limbs o_up o_up_limbs o_down o_down_limbs o_unit o_unit_limbs a1_size a1_negative a1_notANumber a1_infinite a1_c a1_q o_decimal_v (.ref o_value) (.ref o_unit) (.ref o_up) (.ref o_down) o_rest_v (((((a1_q + (63 : Int32)) - u11) * (78913 : Int32)) >>> ((18 : Int32) &&& 31)) + (1 : Int32)) (.ref o_value_limbs) u67.1 u67.2 (.ref o_up_limbs) o_up_size o_up_limbs_c (.ref o_down_limbs) o_down_size o_down_limbs_c (.ref o_unit_limbs) o_unit_size o_unit_limbs_c)) S E hS hP hD (c_JMath_max l z D g (-(((((a1_q + (63 : Int32)) - u11) * (78913 : Int32)) >>> ((18 : Int32) &&& 31)) + (1 : Int32))) (0 : Int32) u81 hc81) cal_JMath_max wd_411 wd_497 rfl [] rfl rfl rfl rfl hl.1 rfl d_Sh_setUp_81 ⟨Nat.zero_le _, Nat.zero_le _⟩ rfl (fun H locs hS hP hD => ?_)
  refine lv_iload S.1 S.2.1 d_Sh_setUp_84 (lv_at hl 0 rfl) ?_
  refine lv_iconst (v := 1) S.1 S.2.1 d_Sh_setUp_86 (by decide) ?_
  refine lv_iadd S.1 S.2.1 d_Sh_setUp_87 ?_
  obtain ⟨u88, hc88, hf⟩ := gx_bnd hf
  refine gx_Vv (ws2 := (ww_Sh_setUp g a1 o o_value o_value_limbs o_up o_up_limbs o_down o_down_limbs o_unit o_unit_limbs a1_size a1_negative a1_notANumber a1_infinite a1_c a1_q o_decimal_v (.ref o_value) (.ref o_unit) (.ref o_up) (.ref o_down) o_rest_v (((((a1_q + (63 : Int32)) - u11) * (78913 : Int32)) >>> ((18 : Int32) &&& 31)) + (1 : Int32)) (.ref o_value_limbs) u67.1 u67.2 (.ref o_up_limbs) u88.1 u88.2 (.ref o_down_limbs) o_down_size o_down_limbs_c (.ref o_unit_limbs) o_unit_size o_unit_limbs_c)) S E hS hP hD (c_Bg_setTimes l z D g o_up o_up_limbs o_up_size o_up_limbs_c (1 : Int64) u81 (u41 + (1 : Int32)) u88 hc88) cal_Bg_setTimes wd_499 wd_500 wd_498 rfl [4, 5] rfl rfl rfl (gx_rc E hP 4 rfl rfl) rfl hl.1 rfl d_Sh_setUp_88 ⟨Nat.zero_le _, Nat.zero_le _⟩ rfl (fun H locs hS hP hD => ?_)
  refine lv_aload_n S.1 S.2.1 d_Sh_setUp_91 rfl (lv_at hl 3 rfl) ?_
  refine gx_gf (v := .ref o_down) S E hP 1 rfl rfl i_Sh 4 rfl wd_233 ⟨rfl, rfl, rfl⟩ rfl d_Sh_setUp_92 ?_
  refine lv_lconst (v := 1) S.1 S.2.1 d_Sh_setUp_95 (by decide) ?_
  refine lv_aload_n S.1 S.2.1 d_Sh_setUp_96 rfl (lv_at hl 3 rfl) ?_
  refine gx_gf (v := .int (((((a1_q + (63 : Int32)) - u11) * (78913 : Int32)) >>> ((18 : Int32) &&& 31)) + (1 : Int32))) S E hP 1 rfl rfl i_Sh 6 rfl wd_235 ⟨rfl, rfl, rfl⟩ rfl d_Sh_setUp_97 ?_
  refine lv_ineg S.1 S.2.1 d_Sh_setUp_100 ?_
  refine lv_iconst (v := 0) S.1 S.2.1 d_Sh_setUp_101 (by decide) ?_
  obtain ⟨u102, hc102, hf⟩ := gx_bnd hf
  refine gx_Si (ws2 := (ww_Sh_setUp g a1 o o_value o_value_limbs o_up o_up_limbs o_down o_down_limbs o_unit o_unit_limbs a1_size a1_negative a1_notANumber a1_infinite a1_c a1_q o_decimal_v (.ref o_value) (.ref o_unit) (.ref o_up) (.ref o_down) o_rest_v (((((a1_q + (63 : Int32)) - u11) * (78913 : Int32)) >>> ((18 : Int32) &&& 31)) + (1 : Int32)) (.ref o_value_limbs) u67.1 u67.2 (.ref o_up_limbs) u88.1 u88.2 (.ref o_down_limbs) o_down_size o_down_limbs_c (.ref o_unit_limbs) o_unit_size o_unit_limbs_c)) S E hS hP hD (c_JMath_max l z D g (-(((((a1_q + (63 : Int32)) - u11) * (78913 : Int32)) >>> ((18 : Int32) &&& 31)) + (1 : Int32))) (0 : Int32) u102 hc102) cal_JMath_max wd_411 wd_497 rfl [] rfl rfl rfl rfl hl.1 rfl d_Sh_setUp_102 ⟨Nat.zero_le _, Nat.zero_le _⟩ rfl (fun H locs hS hP hD => ?_)
  refine lv_aload_n S.1 S.2.1 d_Sh_setUp_105 rfl (lv_at hl 4 rfl) ?_
  obtain ⟨u106, hc106, hf⟩ := gx_bnd hf
  refine gx_Vi (ws2 := (ww_Sh_setUp g a1 o o_value o_value_limbs o_up o_up_limbs o_down o_down_limbs o_unit o_unit_limbs a1_size a1_negative a1_notANumber a1_infinite a1_c a1_q o_decimal_v (.ref o_value) (.ref o_unit) (.ref o_up) (.ref o_down) o_rest_v (((((a1_q + (63 : Int32)) - u11) * (78913 : Int32)) >>> ((18 : Int32) &&& 31)) + (1 : Int32)) (.ref o_value_limbs) u67.1 u67.2 (.ref o_up_limbs) u88.1 u88.2 (.ref o_down_limbs) o_down_size o_down_limbs_c (.ref o_unit_limbs) o_unit_size o_unit_limbs_c)) S E hS hP hD (c_Bi_isUneven l z D g a1 a1_size a1_negative a1_notANumber a1_infinite a1_c a1_q u106 hc106) cal_Bi_isUneven wd_531 wd_532 wd_530 rfl [0] rfl rfl rfl (gx_rc E hP 0 rfl rfl) rfl hl.1 rfl d_Sh_setUp_106 ⟨Nat.zero_le _, Nat.zero_le _⟩ rfl (fun H locs hS hP hD => ?_)
  refine lv_if_eq (tgt := 117) S.1 S.2.1 d_Sh_setUp_109 (by decide) (fun h => ?_) (fun h => ?_)
  ·
    have hf := gx_ifp h hf
    refine lv_iload S.1 S.2.1 d_Sh_setUp_117 (lv_at hl 0 rfl) ?_
    refine lv_iconst (v := 1) S.1 S.2.1 d_Sh_setUp_119 (by decide) ?_
    refine lv_iadd S.1 S.2.1 d_Sh_setUp_120 ?_
    exact c_121 (a1_q - (((((a1_q + (63 : Int32)) - u11) * (78913 : Int32)) >>> ((18 : Int32) &&& 31)) + (1 : Int32))) (u41 + (1 : Int32)) u102 (1 : Int64) (((((a1_q + (63 : Int32)) - u11) * (78913 : Int32)) >>> ((18 : Int32) &&& 31)) + (1 : Int32)) u67.1 u67.2 u88.1 u88.2 o_down_size o_down_limbs_c o_unit_size o_unit_limbs_c ls _ _ (lv_sub hl [3, 1] rfl) hS hP hD hf
  ·
    have hf := gx_ifn h hf
    refine lv_iload S.1 S.2.1 d_Sh_setUp_112 (lv_at hl 0 rfl) ?_
    refine lv_goto (tgt := 121) S.1 S.2.1 d_Sh_setUp_114 (by decide) ?_
    exact c_121 (a1_q - (((((a1_q + (63 : Int32)) - u11) * (78913 : Int32)) >>> ((18 : Int32) &&& 31)) + (1 : Int32))) u41 u102 (1 : Int64) (((((a1_q + (63 : Int32)) - u11) * (78913 : Int32)) >>> ((18 : Int32) &&& 31)) + (1 : Int32)) u67.1 u67.2 u88.1 u88.2 o_down_size o_down_limbs_c o_unit_size o_unit_limbs_c ls _ _ (lv_sub hl [3, 1] rfl) hS hP hD hf
