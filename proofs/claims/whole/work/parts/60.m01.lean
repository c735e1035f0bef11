-- A
set_option maxRecDepth 10000 in
def iI (x : Int) : Int32 := Int32.ofInt x
set_option maxRecDepth 10000 in
def iL (x : Int) : Int64 := Int64.ofInt x
set_option maxRecDepth 10000 in
theorem iI_lit (n : Nat) : (OfNat.ofNat n : Int32) = iI (no_index (OfNat.ofNat n : Int)) := rfl
set_option maxRecDepth 10000 in
theorem iL_lit (n : Nat) : (OfNat.ofNat n : Int64) = iL (no_index (OfNat.ofNat n : Int)) := rfl
set_option maxRecDepth 10000 in
theorem iI_add (a b : Int) : iI a + iI b = iI (a + b) := (Int32.ofInt_add a b).symm
set_option maxRecDepth 10000 in
theorem iI_sub (a b : Int) : iI a - iI b = iI (a - b) := (Int32.ofInt_sub a b).symm
set_option maxRecDepth 10000 in
theorem iI_mul (a b : Int) : iI a * iI b = iI (a * b) := (Int32.ofInt_mul a b).symm
set_option maxRecDepth 10000 in
theorem iI_neg (a : Int) : - iI a = iI (- a) := (Int32.ofInt_neg a).symm
set_option maxRecDepth 10000 in
theorem iL_add (a b : Int) : iL a + iL b = iL (a + b) := (Int64.ofInt_add a b).symm
set_option maxRecDepth 10000 in
theorem iL_sub (a b : Int) : iL a - iL b = iL (a - b) := (Int64.ofInt_sub a b).symm
set_option maxRecDepth 10000 in
theorem iL_mul (a b : Int) : iL a * iL b = iL (a * b) := (Int64.ofInt_mul a b).symm
set_option maxRecDepth 10000 in
theorem iL_neg (a : Int) : - iL a = iL (- a) := (Int64.ofInt_neg a).symm
set_option maxRecDepth 10000 in
theorem iI_t {a : Int} (h : -2147483648 ≤ a) (h' : a < 2147483648) : (iI a).toInt = a := Int32.toInt_ofInt_of_le h h'
set_option maxRecDepth 10000 in
theorem iL_t {a : Int} (h : -9223372036854775808 ≤ a) (h' : a < 9223372036854775808) : (iL a).toInt = a := Int64.toInt_ofInt_of_le h h'
set_option maxRecDepth 10000 in
theorem iI_of (x : Int32) : iI x.toInt = x := Int32.ofInt_toInt x
set_option maxRecDepth 10000 in
theorem iL_of (x : Int64) : iL x.toInt = x := Int64.ofInt_toInt x
set_option maxRecDepth 10000 in
theorem iI_ex (x : Int32) : ∃ a : Int, -2147483648 ≤ a ∧ a < 2147483648 ∧ x = iI a := ⟨x.toInt, Int32.le_toInt x, Int32.toInt_lt x, (iI_of x).symm⟩
set_option maxRecDepth 10000 in
theorem iL_ex (x : Int64) : ∃ a : Int, -9223372036854775808 ≤ a ∧ a < 9223372036854775808 ∧ x = iL a := ⟨x.toInt, Int64.le_toInt x, Int64.toInt_lt x, (iL_of x).symm⟩
set_option maxRecDepth 10000 in
theorem iI_lt {a b : Int} (h : -2147483648 ≤ a) (h' : a < 2147483648) (k : -2147483648 ≤ b) (k' : b < 2147483648) : (iI a < iI b) = (a < b) := by
  rw [Int32.lt_iff_toInt_lt, iI_t h h', iI_t k k']
set_option maxRecDepth 10000 in
theorem iI_le {a b : Int} (h : -2147483648 ≤ a) (h' : a < 2147483648) (k : -2147483648 ≤ b) (k' : b < 2147483648) : (iI a ≤ iI b) = (a ≤ b) := by
  rw [Int32.le_iff_toInt_le, iI_t h h', iI_t k k']
set_option maxRecDepth 10000 in
theorem iI_eq {a b : Int} (h : -2147483648 ≤ a) (h' : a < 2147483648) (k : -2147483648 ≤ b) (k' : b < 2147483648) : (iI a = iI b) = (a = b) := by
  rw [← Int32.toInt_inj, iI_t h h', iI_t k k']
set_option maxRecDepth 10000 in
theorem iL_lt {a b : Int} (h : -9223372036854775808 ≤ a) (h' : a < 9223372036854775808) (k : -9223372036854775808 ≤ b) (k' : b < 9223372036854775808) : (iL a < iL b) = (a < b) := by
  rw [Int64.lt_iff_toInt_lt, iL_t h h', iL_t k k']
set_option maxRecDepth 10000 in
theorem iL_le {a b : Int} (h : -9223372036854775808 ≤ a) (h' : a < 9223372036854775808) (k : -9223372036854775808 ≤ b) (k' : b < 9223372036854775808) : (iL a ≤ iL b) = (a ≤ b) := by
  rw [Int64.le_iff_toInt_le, iL_t h h', iL_t k k']
set_option maxRecDepth 10000 in
theorem iL_eqS {a b : Int} (h : -9223372036854775808 ≤ a) (h' : a < 9223372036854775808) (k : -9223372036854775808 ≤ b) (k' : b < 9223372036854775808) : (iL a = iL b) = (a = b) := by
  rw [← Int64.toInt_inj, iL_t h h', iL_t k k']
set_option maxRecDepth 10000 in
theorem iL_eqU {a b : Int} (h : 0 ≤ a) (h' : a < 18446744073709551616) (k : 0 ≤ b) (k' : b < 18446744073709551616) : (iL a = iL b) = (a = b) := by
  apply propext
  constructor
  · intro e
    have e := congrArg Int64.toInt e
    rw [iL, iL, Int64.toInt_ofInt, Int64.toInt_ofInt] at e
    have := congrArg (fun x => x % ((Int64.size : Nat) : Int)) e
    simp only [Int.bmod_emod] at this
    rw [show ((Int64.size : Nat) : Int) = 18446744073709551616 from rfl, Int.emod_eq_of_lt h h', Int.emod_eq_of_lt k k'] at this
    exact this
  · intro e; rw [e]
set_option maxRecDepth 10000 in
theorem iI_c {a : Int} (h : -2147483648 ≤ a) (h' : a < 2147483648) : (iI a).toNatClampNeg = a.toNat := by
  rw [Int32.toNatClampNeg, iI_t h h']
set_option maxRecDepth 10000 in
theorem iI_ok {a : Int} {n : Nat} (h : -2147483648 ≤ a) (h' : a < 2147483648) (hn : n ≤ 2147483648) : (gx_ok (iI a) n = true) = (0 ≤ a ∧ a < n) := by
  rw [gx_ok, decide_eq_true_eq, show (0 : Int32) = iI 0 from rfl, iI_lt h h' (by decide) (by decide), iI_c h h']
  apply propext
  omega
set_option maxRecDepth 10000 in
theorem iI_l {a : Int} (h : -2147483648 ≤ a) (h' : a < 2147483648) : (iI a).toInt64 = iL a := by
  rw [← Int64.toInt_inj, Int32.toInt_toInt64, iI_t h h', iL_t (by omega) (by omega)]
set_option maxRecDepth 10000 in
theorem iL_i (a : Int) : (iL a).toInt32 = iI a := by
  exact Int64.toInt32_ofInt
set_option maxRecDepth 10000 in
theorem iI_emod (a : Int) : iI (a % 4294967296) = iI a := by
  apply Int32.toInt_inj.mp
  rw [iI, iI, Int32.toInt_ofInt, Int32.toInt_ofInt]
  exact Int.emod_bmod a 4294967296
set_option maxRecDepth 10000 in
theorem iL_emod (a : Int) : iL (a % 18446744073709551616) = iL a := by
  apply Int64.toInt_inj.mp
  rw [iL, iL, Int64.toInt_ofInt, Int64.toInt_ofInt]
  exact Int.emod_bmod a 18446744073709551616
set_option maxRecDepth 10000 in
theorem iI_u {a : Int} (h : 0 ≤ a) (h' : a < 4294967296) : (iI a).toBitVec.toNat = a.toNat := by
  show (BitVec.ofInt 32 a).toNat = _
  rw [BitVec.toNat_ofInt]
  omega
set_option maxRecDepth 10000 in
theorem iL_u {a : Int} (h : 0 ≤ a) (h' : a < 18446744073709551616) : (iL a).toBitVec.toNat = a.toNat := by
  show (BitVec.ofInt 64 a).toNat = _
  rw [BitVec.toNat_ofInt]
  omega
set_option maxRecDepth 10000 in
theorem iL_nat (b : BitVec 64) : (⟨⟨b⟩⟩ : Int64) = iL (b.toNat : Int) := by
  apply Int64.toBitVec_inj.mp
  apply BitVec.eq_of_toNat_eq
  show b.toNat = _
  rw [iL_u (by omega) (by have := b.isLt; omega)]
  omega
set_option maxRecDepth 10000 in
theorem iI_nat (b : BitVec 32) : (⟨⟨b⟩⟩ : Int32) = iI (b.toNat : Int) := by
  apply Int32.toBitVec_inj.mp
  apply BitVec.eq_of_toNat_eq
  show b.toNat = _
  rw [iI_u (by omega) (by have := b.isLt; omega)]
  omega
set_option maxRecDepth 10000 in
def u3 (x : Int32) : Int := (x.toBitVec.toNat : Int)
set_option maxRecDepth 10000 in
theorem u3_0 (x : Int32) : 0 ≤ u3 x := Int.natCast_nonneg _
set_option maxRecDepth 10000 in
theorem u3_l (x : Int32) : u3 x < 4294967296 := by have := x.toBitVec.isLt; unfold u3; omega
set_option maxRecDepth 10000 in
theorem u3_i {a : Int} (h : 0 ≤ a) (h' : a < 4294967296) : u3 (iI a) = a := by unfold u3; rw [iI_u h h']; omega
set_option maxRecDepth 10000 in
theorem u3_m (a : Int) : u3 (iI a) = a % 4294967296 := by rw [← iI_emod, u3_i (by omega) (by omega)]
set_option maxRecDepth 10000 in
theorem i_u3 (x : Int32) : iI (u3 x) = x := (iI_nat x.toBitVec).symm
set_option maxRecDepth 10000 in
theorem u3_inj {x y : Int32} (h : u3 x = u3 y) : x = y := by rw [← i_u3 x, h, i_u3]
set_option maxRecDepth 10000 in
theorem u3_z : u3 0 = 0 := rfl
set_option maxRecDepth 10000 in
theorem u3_z' : u3 (iI 0) = 0 := rfl
set_option maxRecDepth 10000 in
theorem u3_eq0 {x : Int32} : (x = 0) = (u3 x = 0) := propext ⟨fun h => by rw [h]; rfl, fun h => u3_inj (by rw [h]; rfl)⟩
set_option maxRecDepth 10000 in
def u6 (x : Int64) : Int := (x.toBitVec.toNat : Int)
set_option maxRecDepth 10000 in
theorem u6_0 (x : Int64) : 0 ≤ u6 x := Int.natCast_nonneg _
set_option maxRecDepth 10000 in
theorem u6_l (x : Int64) : u6 x < 18446744073709551616 := by have := x.toBitVec.isLt; unfold u6; omega
set_option maxRecDepth 10000 in
theorem u6_i {a : Int} (h : 0 ≤ a) (h' : a < 18446744073709551616) : u6 (iL a) = a := by unfold u6; rw [iL_u h h']; omega
set_option maxRecDepth 10000 in
theorem u6_m (a : Int) : u6 (iL a) = a % 18446744073709551616 := by rw [← iL_emod, u6_i (by omega) (by omega)]
set_option maxRecDepth 10000 in
theorem l_u6 (x : Int64) : iL (u6 x) = x := (iL_nat x.toBitVec).symm
set_option maxRecDepth 10000 in
theorem u6_inj {x y : Int64} (h : u6 x = u6 y) : x = y := by rw [← l_u6 x, h, l_u6]
set_option maxRecDepth 10000 in
theorem u6_and (x y : Int64) : u6 (x &&& y) = ((u6 x).toNat &&& (u6 y).toNat : Nat) := by
  unfold u6; rw [Int64.toBitVec_and, BitVec.toNat_and]; rfl
set_option maxRecDepth 10000 in
theorem u6_or (x y : Int64) : u6 (x ||| y) = ((u6 x).toNat ||| (u6 y).toNat : Nat) := by
  unfold u6; rw [Int64.toBitVec_or, BitVec.toNat_or]; rfl
set_option maxRecDepth 10000 in
theorem u3_and (x y : Int32) : u3 (x &&& y) = ((u3 x).toNat &&& (u3 y).toNat : Nat) := by
  unfold u3; rw [Int32.toBitVec_and, BitVec.toNat_and]; rfl
set_option maxRecDepth 10000 in
theorem u3_or (x y : Int32) : u3 (x ||| y) = ((u3 x).toNat ||| (u3 y).toNat : Nat) := by
  unfold u3; rw [Int32.toBitVec_or, BitVec.toNat_or]; rfl
set_option maxRecDepth 10000 in
theorem iL_and {a b : Int} (h : 0 ≤ a) (h' : a < 18446744073709551616) (k : 0 ≤ b) (k' : b < 18446744073709551616) : iL a &&& iL b = iL ((a.toNat &&& b.toNat : Nat) : Int) := by
  rw [← l_u6 (iL a &&& iL b), u6_and, u6_i h h', u6_i k k']
set_option maxRecDepth 10000 in
theorem iL_or {a b : Int} (h : 0 ≤ a) (h' : a < 18446744073709551616) (k : 0 ≤ b) (k' : b < 18446744073709551616) : iL a ||| iL b = iL ((a.toNat ||| b.toNat : Nat) : Int) := by
  rw [← l_u6 (iL a ||| iL b), u6_or, u6_i h h', u6_i k k']
set_option maxRecDepth 10000 in
theorem iI_and {a b : Int} (h : 0 ≤ a) (h' : a < 4294967296) (k : 0 ≤ b) (k' : b < 4294967296) : iI a &&& iI b = iI ((a.toNat &&& b.toNat : Nat) : Int) := by
  rw [← i_u3 (iI a &&& iI b), u3_and, u3_i h h', u3_i k k']
set_option maxRecDepth 10000 in
theorem iI_or {a b : Int} (h : 0 ≤ a) (h' : a < 4294967296) (k : 0 ≤ b) (k' : b < 4294967296) : iI a ||| iI b = iI ((a.toNat ||| b.toNat : Nat) : Int) := by
  rw [← i_u3 (iI a ||| iI b), u3_or, u3_i h h', u3_i k k']
set_option maxRecDepth 10000 in
theorem iI_low (x : Int32) : x.toInt64 &&& iL 4294967295 = iL (u3 x) := by
  apply Int64.toBitVec_inj.mp
  apply BitVec.eq_of_getLsbD_eq
  intro i hi
  have e : (iL (u3 x)).toBitVec = x.toBitVec.setWidth 64 := by
    apply BitVec.eq_of_toNat_eq
    rw [iL_u (u3_0 x) (by have := u3_l x; omega), BitVec.toNat_setWidth]
    have := x.toBitVec.isLt
    unfold u3
    omega
  rw [e, Int64.toBitVec_and, BitVec.getLsbD_and, Int32.toBitVec_toInt64, BitVec.getLsbD_signExtend, BitVec.getLsbD_setWidth]
  have m : (iL 4294967295).toBitVec = (BitVec.allOnes 32).setWidth 64 := by decide +kernel
  rw [m, BitVec.getLsbD_setWidth, BitVec.getLsbD_allOnes]
  by_cases h : i < 32
  · simp [h, hi]
  · have : x.toBitVec.getLsbD i = false := BitVec.getLsbD_of_ge _ _ (by omega)
    simp [h, hi, this]
set_option maxRecDepth 10000 in
theorem l_ushr {a : Int} {k : Nat} {d : UInt64} (hd : d.toNat = k) (hk : k < 64) (h : 0 ≤ a) (h' : a < 18446744073709551616) : ((iL a).toUInt64 >>> d).toInt64 = iL (a / 2 ^ k) := by
  rw [← l_u6 (((iL a).toUInt64 >>> d).toInt64)]
  congr 1
  show (((iL a).toUInt64 >>> d).toNat : Int) = _
  rw [UInt64.toNat_shiftRight, hd, Nat.mod_eq_of_lt hk]
  show (((iL a).toBitVec.toNat >>> k : Nat) : Int) = _
  rw [iL_u h h', Nat.shiftRight_eq_div_pow]
  simp only [Int.natCast_ediv, Int.natCast_pow]
  rw [Int.toNat_of_nonneg h]
  rfl
set_option maxRecDepth 10000 in
theorem l_ushrI {a s : Int} (hs : 0 ≤ s) (hs' : s < 64) (h : 0 ≤ a) (h' : a < 18446744073709551616) : ((iL a).toUInt64 >>> ((iL s).toUInt64 &&& (iL 63).toUInt64)).toInt64 = iL (a / 2 ^ s.toNat) := by
  refine l_ushr (k := s.toNat) ?_ (by omega) h h'
  rw [UInt64.toNat_and]
  show (iL s).toBitVec.toNat &&& 63 = _
  rw [iL_u hs (by omega), show (63 : Nat) = 2 ^ 6 - 1 from rfl, Nat.and_two_pow_sub_one_eq_mod]
  omega
set_option maxRecDepth 10000 in
theorem l_shl {a : Int} {k : Nat} {d : Int64} (hd : u6 d = k) (hk : k < 64) : iL a <<< d = iL (a * 2 ^ k) := by
  apply Int64.toBitVec_inj.mp
  rw [Int64.toBitVec_shiftLeft]
  have e : (d.toBitVec.smod 64).toNat = k := by
    have hm : d.toBitVec = BitVec.ofNat 64 k := by
      apply BitVec.eq_of_toNat_eq
      have := hd
      unfold u6 at this
      simp only [BitVec.toNat_ofNat]
      omega
    rw [hm]
    have : ∀ k : Fin 64, ((BitVec.ofNat 64 k.val).smod 64).toNat = k.val := by decide +kernel
    exact this ⟨k, hk⟩
  rw [BitVec.shiftLeft_eq', e]
  apply BitVec.eq_of_toInt_eq
  rw [BitVec.toInt_shiftLeft]
  have h1 : (iL a).toBitVec = BitVec.ofInt 64 a := rfl
  have h2 : (iL (a * 2 ^ k)).toBitVec = BitVec.ofInt 64 (a * 2 ^ k) := rfl
  rw [h1, h2, BitVec.toInt_ofInt, BitVec.toNat_ofInt, Nat.shiftLeft_eq]
  have h3 : ((((a % ((2 ^ 64 : Nat) : Int)).toNat * 2 ^ k : Nat)) : Int) = (a % ((2 ^ 64 : Nat) : Int)) * 2 ^ k := by
    rw [Int.natCast_mul, Int.toNat_of_nonneg (Int.emod_nonneg _ (by decide))]
    simp
  rw [h3]
  apply Int.bmod_eq_bmod_iff_bmod_sub_eq_zero.mpr
  rw [← Int.sub_mul]
  have : a % ((2 ^ 64 : Nat) : Int) - a = ((2 ^ 64 : Nat) : Int) * (-(a / ((2 ^ 64 : Nat) : Int))) := by
    have := Int.mul_ediv_add_emod a ((2 ^ 64 : Nat) : Int)
    rw [Int.mul_neg]; omega
  rw [this, Int.mul_assoc]
  exact Int.mul_bmod_right _ _
set_option maxRecDepth 10000 in
theorem l_shlI {a s : Int} (hs : 0 ≤ s) (hs' : s < 64) : iL a <<< (iL s &&& iL 63) = iL (a * 2 ^ s.toNat) := by
  refine l_shl (k := s.toNat) ?_ (by omega)
  rw [u6_and, u6_i hs (by omega)]
  show ((s.toNat &&& 63 : Nat) : Int) = _
  rw [show (63 : Nat) = 2 ^ 6 - 1 from rfl, Nat.and_two_pow_sub_one_eq_mod]
  omega
set_option maxRecDepth 10000 in
theorem l_shr {a : Int} {k : Nat} {d : Int64} (hd : u6 d = k) (hk : k < 64) (h : -9223372036854775808 ≤ a) (h' : a < 9223372036854775808) : iL a >>> d = iL (a / 2 ^ k) := by
  apply Int64.toBitVec_inj.mp
  rw [Int64.toBitVec_shiftRight]
  have e : (d.toBitVec.smod 64).toNat = k := by
    have hm : d.toBitVec = BitVec.ofNat 64 k := by
      apply BitVec.eq_of_toNat_eq
      have := hd
      unfold u6 at this
      simp only [BitVec.toNat_ofNat]
      omega
    rw [hm]
    have : ∀ k : Fin 64, ((BitVec.ofNat 64 k.val).smod 64).toNat = k.val := by decide +kernel
    exact this ⟨k, hk⟩
  rw [BitVec.sshiftRight_eq', e]
  apply BitVec.eq_of_toInt_eq
  rw [BitVec.toInt_sshiftRight]
  have h1 : (iL a).toBitVec.toInt = a := iL_t h h'
  rw [h1, Int.shiftRight_eq_div_pow]
  have hp : (0 : Int) < 2 ^ k := Int.pow_pos (by decide)
  have hb : -9223372036854775808 ≤ a / 2 ^ k := by
    rw [Int.le_ediv_iff_mul_le hp]
    have : (1 : Int) ≤ 2 ^ k := hp
    omega
  have hb' : a / 2 ^ k < 9223372036854775808 := by
    apply Int.ediv_lt_of_lt_mul hp
    have : (1 : Int) ≤ 2 ^ k := hp
    have := Int.mul_le_mul_of_nonneg_left this (show (0 : Int) ≤ 9223372036854775808 by decide)
    omega
  have := iL_t hb hb'
  rw [show ((2 ^ k : Nat) : Int) = 2 ^ k by simp]
  exact this.symm
set_option maxRecDepth 10000 in
theorem l_shrI {a s : Int} (hs : 0 ≤ s) (hs' : s < 64) (h : -9223372036854775808 ≤ a) (h' : a < 9223372036854775808) : iL a >>> (iL s &&& iL 63) = iL (a / 2 ^ s.toNat) := by
  refine l_shr (k := s.toNat) ?_ (by omega) h h'
  rw [u6_and, u6_i hs (by omega)]
  show ((s.toNat &&& 63 : Nat) : Int) = _
  rw [show (63 : Nat) = 2 ^ 6 - 1 from rfl, Nat.and_two_pow_sub_one_eq_mod]
  omega
set_option maxRecDepth 10000 in
theorem i_sm {s : Int} (hs : 0 ≤ s) (hs' : s < 32) : ((iI s &&& iI 31).toBitVec.smod 32).toNat = s.toNat := by
  obtain ⟨k, rfl⟩ : ∃ k : Nat, s = k := ⟨s.toNat, by omega⟩
  have : ∀ k : Fin 32, ((iI (k.val : Int) &&& iI 31).toBitVec.smod 32).toNat = k.val := by decide +kernel
  exact this ⟨k, by omega⟩
set_option maxRecDepth 10000 in
theorem i_shlI {a s : Int} (hs : 0 ≤ s) (hs' : s < 32) : iI a <<< (iI s &&& iI 31) = iI (a * 2 ^ s.toNat) := by
  apply Int32.toBitVec_inj.mp
  rw [Int32.toBitVec_shiftLeft, BitVec.shiftLeft_eq', i_sm hs hs']
  apply BitVec.eq_of_toInt_eq
  rw [BitVec.toInt_shiftLeft]
  generalize s.toNat = k
  have h1 : (iI a).toBitVec = BitVec.ofInt 32 a := rfl
  have h2 : (iI (a * 2 ^ k)).toBitVec = BitVec.ofInt 32 (a * 2 ^ k) := rfl
  rw [h1, h2, BitVec.toInt_ofInt, BitVec.toNat_ofInt, Nat.shiftLeft_eq]
  have h3 : ((((a % ((2 ^ 32 : Nat) : Int)).toNat * 2 ^ k : Nat)) : Int) = (a % ((2 ^ 32 : Nat) : Int)) * 2 ^ k := by
    rw [Int.natCast_mul, Int.toNat_of_nonneg (Int.emod_nonneg _ (by decide))]
    simp
  rw [h3]
  apply Int.bmod_eq_bmod_iff_bmod_sub_eq_zero.mpr
  rw [← Int.sub_mul]
  have : a % ((2 ^ 32 : Nat) : Int) - a = ((2 ^ 32 : Nat) : Int) * (-(a / ((2 ^ 32 : Nat) : Int))) := by
    have := Int.mul_ediv_add_emod a ((2 ^ 32 : Nat) : Int)
    rw [Int.mul_neg]; omega
  rw [this, Int.mul_assoc]
  exact Int.mul_bmod_right _ _
set_option maxRecDepth 10000 in
theorem i_shrI {a s : Int} (hs : 0 ≤ s) (hs' : s < 32) (h : -2147483648 ≤ a) (h' : a < 2147483648) : iI a >>> (iI s &&& iI 31) = iI (a / 2 ^ s.toNat) := by
  apply Int32.toBitVec_inj.mp
  rw [Int32.toBitVec_shiftRight, BitVec.sshiftRight_eq', i_sm hs hs']
  apply BitVec.eq_of_toInt_eq
  rw [BitVec.toInt_sshiftRight]
  have h1 : (iI a).toBitVec.toInt = a := iI_t h h'
  generalize s.toNat = k
  rw [h1, Int.shiftRight_eq_div_pow]
  have hp : (0 : Int) < 2 ^ k := Int.pow_pos (by decide)
  have hb : -2147483648 ≤ a / 2 ^ k := by
    rw [Int.le_ediv_iff_mul_le hp]
    have : (1 : Int) ≤ 2 ^ k := hp
    omega
  have hb' : a / 2 ^ k < 2147483648 := by
    apply Int.ediv_lt_of_lt_mul hp
    have : (1 : Int) ≤ 2 ^ k := hp
    have := Int.mul_le_mul_of_nonneg_left this (show (0 : Int) ≤ 2147483648 by decide)
    omega
  have := iI_t hb hb'
  rw [show ((2 ^ k : Nat) : Int) = 2 ^ k by simp]
  exact this.symm
set_option maxRecDepth 10000 in
theorem i_ushrI {a s : Int} (hs : 0 ≤ s) (hs' : s < 32) (h : 0 ≤ a) (h' : a < 4294967296) : ((iI a).toUInt32 >>> ((iI s).toUInt32 &&& (iI 31).toUInt32)).toInt32 = iI (a / 2 ^ s.toNat) := by
  rw [← i_u3 (((iI a).toUInt32 >>> ((iI s).toUInt32 &&& (iI 31).toUInt32)).toInt32)]
  congr 1
  show (((iI a).toUInt32 >>> ((iI s).toUInt32 &&& (iI 31).toUInt32)).toNat : Int) = _
  have hd : ((iI s).toUInt32 &&& (iI 31).toUInt32).toNat = s.toNat := by
    rw [UInt32.toNat_and]
    show (iI s).toBitVec.toNat &&& 31 = _
    rw [iI_u hs (by omega), show (31 : Nat) = 2 ^ 5 - 1 from rfl, Nat.and_two_pow_sub_one_eq_mod]
    omega
  rw [UInt32.toNat_shiftRight, hd, Nat.mod_eq_of_lt (by omega)]
  show (((iI a).toBitVec.toNat >>> s.toNat : Nat) : Int) = _
  rw [iI_u h h', Nat.shiftRight_eq_div_pow]
  simp only [Int.natCast_ediv, Int.natCast_pow]
  rw [Int.toNat_of_nonneg h]
  rfl
set_option maxRecDepth 10000 in
theorem iI_div {a b : Int} (h : 0 ≤ a) (h' : a < 2147483648) (k : 0 < b) (k' : b < 2147483648) : iI a / iI b = iI (a / b) := by
  rw [← Int32.toInt_inj, Int32.toInt_div, iI_t (by omega) h', iI_t (by omega) k']
  have h1 : a.tdiv b = a / b := Int.tdiv_eq_ediv_of_nonneg h
  have h2 : 0 ≤ a / b := Int.ediv_nonneg h (by omega)
  have h3 : a / b ≤ a := Int.ediv_le_self b h
  rw [h1, iI_t (by omega) (by omega), Int.bmod_eq_of_le (by omega) (by omega)]
set_option maxRecDepth 10000 in
theorem iL_div {a b : Int} (h : 0 ≤ a) (h' : a < 9223372036854775808) (k : 0 < b) (k' : b < 9223372036854775808) : iL a / iL b = iL (a / b) := by
  rw [← Int64.toInt_inj, Int64.toInt_div, iL_t (by omega) h', iL_t (by omega) k']
  have h1 : a.tdiv b = a / b := Int.tdiv_eq_ediv_of_nonneg h
  have h2 : 0 ≤ a / b := Int.ediv_nonneg h (by omega)
  have h3 : a / b ≤ a := Int.ediv_le_self b h
  rw [h1, iL_t (by omega) (by omega), Int.bmod_eq_of_le (by omega) (by omega)]
set_option maxRecDepth 10000 in
theorem iL_tdiv {a b : Int} (h : -9223372036854775808 ≤ a) (h' : a < 9223372036854775808) (k : 1 < b) (k' : b < 9223372036854775808) : iL a / iL b = iL (a.tdiv b) := by
  rw [← Int64.toInt_inj, Int64.toInt_div, iL_t (by omega) h', iL_t (by omega) k']
  have h1 : (a.tdiv b).natAbs ≤ a.natAbs := by rw [Int.natAbs_tdiv]; exact Nat.div_le_self _ _
  have h2 : a.tdiv b < 9223372036854775808 := by
    by_cases ha : 0 ≤ a
    · omega
    · have : a.tdiv b ≤ 0 := by
        have e := Int.neg_tdiv a b
        have := Int.tdiv_nonneg (a := -a) (b := b) (by omega) (by omega)
        omega
      omega
  rw [iL_t (by omega) h2, Int.bmod_eq_of_le (by omega) (by omega)]
set_option maxRecDepth 10000 in
theorem iI_i8 {a : Int} : (iI a).toInt8.toInt32 = iI (a.bmod 256) := by
  rw [← Int32.toInt_inj, Int8.toInt_toInt32, Int32.toInt_toInt8]
  have : (iI a).toInt = a.bmod 4294967296 := Int32.toInt_ofInt
  rw [this]
  have h1 := Int.le_bmod (x := a) (m := 256) (by decide)
  have h2 := Int.bmod_lt (x := a) (m := 256) (by decide)
  rw [iI_t (by omega) (by omega)]
  exact Int.bmod_bmod_of_dvd (by decide)
set_option maxRecDepth 10000 in
theorem iI_ofNat (n : Nat) : Int32.ofNat n = iI n := by
  apply Int32.toBitVec_inj.mp
  show BitVec.ofNat 32 n = BitVec.ofInt 32 n
  rw [BitVec.ofInt_natCast]
set_option maxRecDepth 10000 in
theorem iL_ofNat (n : Nat) : Int64.ofNat n = iL n := by
  apply Int64.toBitVec_inj.mp
  show BitVec.ofNat 64 n = BitVec.ofInt 64 n
  rw [BitVec.ofInt_natCast]
