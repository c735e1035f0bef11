-- R
set_option maxRecDepth 10000 in
abbrev lowN (ev w h X u : Int) (n : Nat) : Prop := X * 10 ^ n % u < w * h * 10 ^ n ∨ (X * 10 ^ n % u = w * h * 10 ^ n ∧ ev = 1)
set_option maxRecDepth 10000 in
abbrev uppN (ev h X u : Int) (n : Nat) : Prop := u - X * 10 ^ n % u < 2 * h * 10 ^ n ∨ (u - X * 10 ^ n % u = 2 * h * 10 ^ n ∧ ev = 1)
set_option maxRecDepth 10000 in
abbrev betN (X u : Int) (n : Nat) : Prop := u - X * 10 ^ n % u < X * 10 ^ n % u ∨ (X * 10 ^ n % u = u - X * 10 ^ n % u ∧ X * 10 ^ n / u % 2 = 1)
set_option maxRecDepth 10000 in
theorem ratio {K T h u a : Int} (hK : 0 < K) (hh : 0 < h) (hu : 0 < u) (hT : 0 < T) (ha : 0 ≤ a) (hr : T * h = K * u) : K * a / T = h * a / u ∧ (K * a % T) * h = (h * a % u) * K := by
  have e := Int.mul_ediv_add_emod (h * a) u
  have n0 := Int.emod_nonneg (h * a) (show u ≠ 0 by omega)
  have n1 := Int.emod_lt_of_pos (h * a) hu
  generalize h * a / u = d at *
  generalize hρ : h * a % u = ρ at *
  have e2 : (K * a - T * d) * h = K * ρ := by
    have : K * (u * d + ρ) = K * (h * a) := by rw [e]
    grind
  have r0 : 0 ≤ K * a - T * d := by
    rcases Int.lt_or_le (K * a - T * d) 0 with q | q
    · have h1 := Int.mul_lt_mul_of_pos_right q hh
      have h2 : 0 ≤ K * ρ := Int.mul_nonneg (by omega) n0
      omega
    · exact q
  have r1 : K * a - T * d < T := by
    have h2 : K * ρ < K * u := Int.mul_lt_mul_of_pos_left n1 hK
    rw [← e2, ← hr] at h2
    exact Int.lt_of_mul_lt_mul_right h2 (by omega)
  have e3 : K * a = (K * a - T * d) + T * d := by omega
  constructor
  · rw [e3, Int.add_mul_ediv_left _ _ (by omega), Int.ediv_eq_zero_of_lt r0 r1, Int.zero_add]
  · have : K * a % T = K * a - T * d := by
      conv => lhs; rw [e3]
      rw [Int.add_mul_emod_self_left, Int.emod_eq_of_lt r0 r1]
    rw [this, e2, Int.mul_comm]
set_option maxRecDepth 10000 in
theorem cl_low {c K T h u w ev : Int} (hc : 0 ≤ c) (hK : 0 < K) (hh : 0 < h) (hu : 0 < u) (hT : 0 < T) (hr : T * h = K * u) (n : Nat) : lowR ev (4 * c * K) (w * K) T n ↔ lowN ev w h (4 * c * h) u n := by
  obtain ⟨_, r2⟩ := ratio (a := 4 * c * 10 ^ n) hK hh hu hT (Int.mul_nonneg (by omega) (Int.le_of_lt (p10_pos n))) hr
  have e1 : 4 * c * K * 10 ^ n = K * (4 * c * 10 ^ n) := by grind
  have e2 : 4 * c * h * 10 ^ n = h * (4 * c * 10 ^ n) := by grind
  unfold lowR lowN
  rw [e1, e2]
  generalize K * (4 * c * 10 ^ n) % T = r at *
  generalize h * (4 * c * 10 ^ n) % u = ρ at *
  have hp := p10_pos n
  generalize (10 : Int) ^ n = P at *
  have lt1 : r < w * K * P ↔ ρ < w * h * P := by
    have a1 : r < w * K * P ↔ r * h < w * K * P * h := ⟨fun q => Int.mul_lt_mul_of_pos_right q hh, fun q => Int.lt_of_mul_lt_mul_right q (by omega)⟩
    have a2 : ρ < w * h * P ↔ ρ * K < w * h * P * K := ⟨fun q => Int.mul_lt_mul_of_pos_right q hK, fun q => Int.lt_of_mul_lt_mul_right q (by omega)⟩
    have a3 : w * K * P * h = w * h * P * K := by grind
    rw [a1, a2, r2, a3]
  have eq1 : r = w * K * P ↔ ρ = w * h * P := by
    have a3 : w * K * P * h = w * h * P * K := by grind
    constructor
    · intro q
      rw [q, a3] at r2
      exact (Int.eq_of_mul_eq_mul_right (by omega) r2).symm
    · intro q
      rw [q, ← a3] at r2
      exact Int.eq_of_mul_eq_mul_right (by omega) r2
  rw [lt1, eq1]
set_option maxRecDepth 10000 in
theorem cl_upp {c K T h u ev : Int} (hc : 0 ≤ c) (hK : 0 < K) (hh : 0 < h) (hu : 0 < u) (hT : 0 < T) (hr : T * h = K * u) (n : Nat) : uppR ev (4 * c * K) (2 * K) T n ↔ uppN ev h (4 * c * h) u n := by
  obtain ⟨_, r2⟩ := ratio (a := 4 * c * 10 ^ n) hK hh hu hT (Int.mul_nonneg (by omega) (Int.le_of_lt (p10_pos n))) hr
  have e1 : 4 * c * K * 10 ^ n = K * (4 * c * 10 ^ n) := by grind
  have e2 : 4 * c * h * 10 ^ n = h * (4 * c * 10 ^ n) := by grind
  unfold uppR uppN
  rw [e1, e2]
  generalize K * (4 * c * 10 ^ n) % T = r at *
  generalize h * (4 * c * 10 ^ n) % u = ρ at *
  have hp := p10_pos n
  generalize (10 : Int) ^ n = P at *
  have r3 : (T - r) * h = (u - ρ) * K := by grind
  have a3 : 2 * K * P * h = 2 * h * P * K := by grind
  have lt1 : T - r < 2 * K * P ↔ u - ρ < 2 * h * P := by
    have a1 : T - r < 2 * K * P ↔ (T - r) * h < 2 * K * P * h := ⟨fun q => Int.mul_lt_mul_of_pos_right q hh, fun q => Int.lt_of_mul_lt_mul_right q (by omega)⟩
    have a2 : u - ρ < 2 * h * P ↔ (u - ρ) * K < 2 * h * P * K := ⟨fun q => Int.mul_lt_mul_of_pos_right q hK, fun q => Int.lt_of_mul_lt_mul_right q (by omega)⟩
    rw [a1, a2, r3, a3]
  have eq1 : T - r = 2 * K * P ↔ u - ρ = 2 * h * P := by
    constructor
    · intro q
      rw [q, a3] at r3
      exact (Int.eq_of_mul_eq_mul_right (by omega) r3).symm
    · intro q
      rw [q, ← a3] at r3
      exact Int.eq_of_mul_eq_mul_right (by omega) r3
  rw [lt1, eq1]
set_option maxRecDepth 10000 in
theorem cl_bet {c K T h u : Int} (hc : 0 ≤ c) (hK : 0 < K) (hh : 0 < h) (hu : 0 < u) (hT : 0 < T) (hr : T * h = K * u) (n : Nat) : betR (4 * c * K) T n ↔ betN (4 * c * h) u n := by
  obtain ⟨r1, r2⟩ := ratio (a := 4 * c * 10 ^ n) hK hh hu hT (Int.mul_nonneg (by omega) (Int.le_of_lt (p10_pos n))) hr
  have e1 : 4 * c * K * 10 ^ n = K * (4 * c * 10 ^ n) := by grind
  have e2 : 4 * c * h * 10 ^ n = h * (4 * c * 10 ^ n) := by grind
  unfold betR betN
  rw [e1, e2, r1]
  generalize K * (4 * c * 10 ^ n) % T = r at *
  generalize h * (4 * c * 10 ^ n) % u = ρ at *
  have r3 : (T - r) * h = (u - ρ) * K := by grind
  have lt1 : T - r < r ↔ u - ρ < ρ := by
    have a1 : T - r < r ↔ (T - r) * h < r * h := ⟨fun q => Int.mul_lt_mul_of_pos_right q hh, fun q => Int.lt_of_mul_lt_mul_right q (by omega)⟩
    have a2 : u - ρ < ρ ↔ (u - ρ) * K < ρ * K := ⟨fun q => Int.mul_lt_mul_of_pos_right q hK, fun q => Int.lt_of_mul_lt_mul_right q (by omega)⟩
    rw [a1, a2, r3, r2]
  have eq1 : r = T - r ↔ ρ = u - ρ := by
    constructor
    · intro q
      rw [← q, r2] at r3
      exact Int.eq_of_mul_eq_mul_right (by omega) r3
    · intro q
      rw [← q, ← r2] at r3
      exact (Int.eq_of_mul_eq_mul_right (by omega) r3).symm
  rw [lt1, eq1]
set_option maxRecDepth 10000 in
def finN (ev w h X u : Int) (n : Nat) : Int := X * 10 ^ n / u + (if uppN ev h X u n ∧ (¬ lowN ev w h X u n ∨ betN X u n) then 1 else 0)
set_option maxRecDepth 10000 in
theorem cl_fin {c K T h u w ev : Int} (hc : 0 ≤ c) (hK : 0 < K) (hh : 0 < h) (hu : 0 < u) (hT : 0 < T) (hr : T * h = K * u) (n : Nat) : finD ev (4 * c * K) (2 * K) (w * K) T n = finN ev w h (4 * c * h) u n := by
  obtain ⟨r1, _⟩ := ratio (a := 4 * c * 10 ^ n) hK hh hu hT (Int.mul_nonneg (by omega) (Int.le_of_lt (p10_pos n))) hr
  have e1 : 4 * c * K * 10 ^ n = K * (4 * c * 10 ^ n) := by grind
  have e2 : 4 * c * h * 10 ^ n = h * (4 * c * 10 ^ n) := by grind
  unfold finD finN
  have d1 : 4 * c * K * 10 ^ n / T = 4 * c * h * 10 ^ n / u := by rw [e1, e2, r1]
  have hp : (uppR ev (4 * c * K) (2 * K) T n ∧ (¬ lowR ev (4 * c * K) (w * K) T n ∨ betR (4 * c * K) T n)) ↔ (uppN ev h (4 * c * h) u n ∧ (¬ lowN ev w h (4 * c * h) u n ∨ betN (4 * c * h) u n)) := and_congr (cl_upp hc hK hh hu hT hr n) (or_congr (not_congr (cl_low hc hK hh hu hT hr n)) (cl_bet hc hK hh hu hT hr n))
  by_cases y : uppR ev (4 * c * K) (2 * K) T n ∧ (¬ lowR ev (4 * c * K) (w * K) T n ∨ betR (4 * c * K) T n)
  · rw [if_pos y, if_pos (hp.mp y), d1]
  · rw [if_neg y, if_neg (fun z => y (hp.mpr z)), d1]
set_option maxRecDepth 10000 in
def isShortN (c q w ev Df P : Int) : Prop := ∃ (p : Int) (N : Nat), 4 * c * gq (q - 2) < 10 ^ (p + 2000).toNat ∧ 10 ^ (p + 2000).toNat ≤ 10 * (4 * c * gq (q - 2)) ∧ 2 ≤ N ∧ N ≤ 18 ∧ (lowN ev w (gq (q - 2)) (4 * c * gq (q - 2)) (10 ^ (p + 2000).toNat) N ∨ uppN ev (gq (q - 2)) (4 * c * gq (q - 2)) (10 ^ (p + 2000).toNat) N) ∧ (∀ k, 2 ≤ k → k < N → ¬ (lowN ev w (gq (q - 2)) (4 * c * gq (q - 2)) (10 ^ (p + 2000).toNat) k ∨ uppN ev (gq (q - 2)) (4 * c * gq (q - 2)) (10 ^ (p + 2000).toNat) k)) ∧ Df = finN ev w (gq (q - 2)) (4 * c * gq (q - 2)) (10 ^ (p + 2000).toNat) N ∧ P = (nd Df.natAbs : Int) + (p - N) ∧ -600 ≤ p ∧ p ≤ 600
-- R2
set_option maxRecDepth 10000 in
def cZ : Int := 2 ^ 500 * 5 ^ 1600
set_option maxRecDepth 10000 in
theorem pw25 (a b : Nat) : (2 : Int) ^ (a + b) = 2 ^ a * 2 ^ b := Int.pow_add ..
set_option maxRecDepth 10000 in
theorem pw55 (a b : Nat) : (5 : Int) ^ (a + b) = 5 ^ a * 5 ^ b := Int.pow_add ..
set_option maxRecDepth 10000 in
theorem gcv {q : Int} (hq0 : -1074 ≤ q) : gq (q - 2) * 4 = 2 ^ (q + 1100).toNat * cA * cZ := by
  have e4 : (2 : Int) ^ (q - 2 + 2000).toNat * 4 = 2 ^ (q + 1100).toNat * 2 ^ (400 + 500) := by
    rw [show (4 : Int) = 2 ^ 2 from rfl, ← Int.pow_add, ← Int.pow_add]; congr 1; omega
  have e6 : (5 : Int) ^ 2000 = 5 ^ (400 + 1600) := rfl
  have eA : cA = 2 ^ 400 * 5 ^ 400 := by unfold cA; rw [p10_25]
  unfold gq
  rw [Int.mul_right_comm, e4, e6, pw25, pw55, eA]
  unfold cZ
  generalize (2 : Int) ^ (q + 1100).toNat = A
  generalize (2 : Int) ^ 400 = B
  generalize (2 : Int) ^ 500 = C
  generalize (5 : Int) ^ 400 = D
  generalize (5 : Int) ^ 1600 = E
  grind
set_option maxRecDepth 10000 in
theorem ucv {p : Int} (hp : -330 ≤ p) : (10 : Int) ^ (p + 2000).toNat = 10 ^ (p + 400).toNat * cB * cZ := by
  rw [show (p + 2000).toNat = (p + 400).toNat + 1600 by omega, Int.pow_add, p10_25 1600]
  have : (2 : Int) ^ 1600 = 2 ^ (1100 + 500) := rfl
  rw [this, pw25]
  unfold cB cZ
  generalize (10 : Int) ^ (p + 400).toNat = A
  generalize (2 : Int) ^ 1100 = B
  generalize (2 : Int) ^ 500 = C
  generalize (5 : Int) ^ 1600 = E
  grind
set_option maxRecDepth 10000 in
theorem relcv {q p K T : Int} (hq0 : -1074 ≤ q) (hp : -330 ≤ p) (h : suRel q p K T) : T * gq (q - 2) = K * 10 ^ (p + 2000).toNat := by
  have a1 := gcv hq0
  have a2 := ucv hp
  unfold suRel at h
  generalize gq (q - 2) = g at *
  generalize (10 : Int) ^ (p + 2000).toNat = u at *
  generalize cZ = Z at *
  generalize (2 : Int) ^ (q + 1100).toNat = A at *
  generalize cA = B at *
  generalize (10 : Int) ^ (p + 400).toNat = C at *
  generalize cB = D at *
  have l : T * g * 4 = (T * A * B) * Z := by rw [Int.mul_assoc T g 4, a1]; grind
  rw [h] at l
  have : (T * g) * 4 = (K * u) * 4 := by
    rw [l, a2]
    grind
  omega
set_option maxRecDepth 10000 in
theorem short_N {c q w ev Df P : Int} (hc : 0 < c) (hq0 : -1074 ≤ q) (h : isShort c q w ev Df P) : isShortN c q w ev Df P := by
  obtain ⟨p, K, T, N, hrel, hK, h1, h2, h3, h4, h5, h6, h7, h8, h9, h10⟩ := h
  have hg := gq_pos (q - 2)
  have hu := p10_pos (p + 2000).toNat
  have hT : 0 < T := by have := Int.mul_pos (show 0 < 4 * c by omega) hK; omega
  have hr := relcv hq0 h9 hrel
  refine ⟨p, N, ?_, ?_, h3, h4, ?_, ?_, ?_, h8, by omega, by omega⟩
  · have : 4 * c * K * gq (q - 2) < T * gq (q - 2) := Int.mul_lt_mul_of_pos_right h1 hg
    rw [hr] at this
    have e : 4 * c * K * gq (q - 2) = K * (4 * c * gq (q - 2)) := by grind
    rw [e] at this
    exact Int.lt_of_mul_lt_mul_left this (by omega)
  · have : T * gq (q - 2) ≤ 10 * (4 * c * K) * gq (q - 2) := Int.mul_le_mul_of_nonneg_right h2 (by omega)
    rw [hr] at this
    have e : 10 * (4 * c * K) * gq (q - 2) = K * (10 * (4 * c * gq (q - 2))) := by grind
    rw [e] at this
    exact Int.le_of_mul_le_mul_left this hK
  · rw [← cl_low (by omega) hK hg hu hT hr, ← cl_upp (by omega) hK hg hu hT hr]; exact h5
  · intro k k1 k2
    rw [← cl_low (by omega) hK hg hu hT hr, ← cl_upp (by omega) hK hg hu hT hr]; exact h6 k k1 k2
  · rw [h7]; exact cl_fin (by omega) hK hg hu hT hr N
-- S
set_option maxRecDepth 10000 in
theorem preD {M : Nat} {e0 : Nat} (n : Nat) : (pre (digF M) n : Int) = (M : Int) * 10 ^ e0 * 10 ^ n / 10 ^ (nd M + e0) := by
  by_cases hz : M = 0
  · subst hz
    have : pre (digF 0) n = 0 := by
      induction n with
      | zero => rfl
      | succ n ih => rw [pre, ih, digF_out (by rw [nd_zero]; omega)]
    rw [this]; simp
  · rw [pre_digF (by omega)]
    have e1 : (M : Int) * 10 ^ e0 * 10 ^ n = ((M * 10 ^ n : Nat) : Int) * 10 ^ e0 := by rw [Int.natCast_mul, Int.natCast_pow]; grind
    rw [e1, Int.pow_add, Int.mul_comm ((10 : Int) ^ nd M), Int.mul_comm _ ((10 : Int) ^ e0), Int.mul_ediv_mul_of_pos _ _ (p10_pos e0)]
    by_cases h : n ≤ nd M
    · rw [if_pos h]
      have e2 : M * 10 ^ n / 10 ^ nd M = M / 10 ^ (nd M - n) := by
        have : 10 ^ nd M = 10 ^ (nd M - n) * 10 ^ n := by rw [← Nat.pow_add]; congr 1; omega
        rw [this, Nat.mul_div_mul_right _ _ (Nat.pow_pos (by omega))]
      rw [← e2, Int.natCast_ediv, Int.natCast_pow]; rfl
    · rw [if_neg h]
      have e2 : M * 10 ^ n / 10 ^ nd M = M * 10 ^ (n - nd M) := by
        have : 10 ^ n = 10 ^ (n - nd M) * 10 ^ nd M := by rw [← Nat.pow_add]; congr 1; omega
        rw [this, ← Nat.mul_assoc, Nat.mul_div_cancel _ (Nat.pow_pos (by omega))]
      rw [← e2, Int.natCast_ediv, Int.natCast_pow]; rfl
set_option maxRecDepth 10000 in
theorem dstep {X u : Int} (hu : 0 < u) (n : Nat) : X * 10 ^ (n + 1) / u = X * 10 ^ n / u * 10 + X * 10 ^ n % u * 10 / u ∧ X * 10 ^ (n + 1) % u = X * 10 ^ n % u * 10 % u := sD_step hu n
set_option maxRecDepth 10000 in
theorem rho_zero {X u : Int} (hu : 0 < u) {δ : Nat → Nat} (hD : ∀ n, (pre δ n : Int) = X * 10 ^ n / u) {L : Nat} (hL : X * 10 ^ L % u = 0) {en : Nat} (hs : isStrip δ en) (m : Nat) : X * 10 ^ m % u = 0 ↔ en ≤ m := by
  have hdig : ∀ n, (δ n : Int) = X * 10 ^ n % u * 10 / u := by
    intro n
    have h1 := hD (n + 1)
    have h2 := hD n
    rw [(dstep hu n).1, ← h2] at h1
    rw [pre] at h1
    omega
  constructor
  · intro h
    have hz : ∀ k, X * 10 ^ (m + k) % u = 0 := by
      intro k
      induction k with
      | zero => exact h
      | succ k ih => rw [← Nat.add_assoc, (dstep hu (m + k)).2, ih]; simp
    rcases Nat.lt_or_ge m en with q | q
    · exfalso
      have := hdig (en - 1)
      have hz' := hz (en - 1 - m)
      rw [show m + (en - 1 - m) = en - 1 by omega] at hz'
      rw [hz'] at this
      simp at this
      exact hs.2 (by omega) this
    · exact q
  · intro h
    -- all digits from m on are 0, and far out nothing is left
    have hq : ∀ k, X * 10 ^ (m + k) % u = X * 10 ^ m % u * 10 ^ k := by
      intro k
      induction k with
      | zero => simp
      | succ k ih =>
        have h0 := hs.1 (m + k) (by omega)
        have h1 := hdig (m + k)
        rw [h0] at h1
        have hnn := Int.emod_nonneg (X * 10 ^ (m + k)) (show u ≠ 0 by omega)
        have hlt : X * 10 ^ (m + k) % u * 10 < u := by
          rcases Int.lt_or_le (X * 10 ^ (m + k) % u * 10) u with r | r
          · exact r
          · have : 1 ≤ X * 10 ^ (m + k) % u * 10 / u := by rw [Int.le_ediv_iff_mul_le hu]; omega
            omega
        rw [← Nat.add_assoc, (dstep hu (m + k)).2, Int.emod_eq_of_lt (by omega) hlt, ih, Int.pow_succ]
        generalize X * 10 ^ m % u = a
        generalize (10 : Int) ^ k = b
        grind
    have hL2 : X * 10 ^ (m + L) % u = 0 := by
      have : X * 10 ^ (m + L) = (X * 10 ^ L) * 10 ^ m := by rw [Int.pow_add]; generalize (10 : Int) ^ m = a; generalize (10 : Int) ^ L = b; grind
      rw [this, Int.mul_emod, hL]
      simp
    rw [hq L] at hL2
    have hp := p10_pos L
    rcases Int.mul_eq_zero.mp hL2 with r | r
    · exact r
    · omega
set_option maxRecDepth 10000 in
theorem half_cmp {X u : Int} (hu : 0 < u) {δ : Nat → Nat} (hD : ∀ n, (pre δ n : Int) = X * 10 ^ n / u) (n : Nat) :
    (δ n < 5 → 2 * (X * 10 ^ n % u) < u) ∧ (5 < δ n → u < 2 * (X * 10 ^ n % u)) ∧ (δ n = 5 → (X * 10 ^ (n + 1) % u = 0 → 2 * (X * 10 ^ n % u) = u) ∧ (X * 10 ^ (n + 1) % u ≠ 0 → u < 2 * (X * 10 ^ n % u))) := by
  have hdig : (δ n : Int) = X * 10 ^ n % u * 10 / u := by
    have h1 := hD (n + 1)
    have h2 := hD n
    rw [(dstep hu n).1, ← h2] at h1
    rw [pre] at h1
    omega
  have h2 := (dstep (X := X) hu n).2
  have e := Int.mul_ediv_add_emod (X * 10 ^ n % u * 10) u
  have n0 := Int.emod_nonneg (X * 10 ^ n % u * 10) (show u ≠ 0 by omega)
  have n1 := Int.emod_lt_of_pos (X * 10 ^ n % u * 10) hu
  rw [← hdig, ← h2] at e
  rw [← h2] at n0 n1
  generalize X * 10 ^ (n + 1) % u = s at *
  generalize X * 10 ^ n % u = r at *
  refine ⟨fun q => ?_, fun q => ?_, fun q => ⟨fun z => ?_, fun z => ?_⟩⟩
  · have : u * (δ n : Int) ≤ u * 4 := Int.mul_le_mul_of_nonneg_left (by omega) (by omega)
    omega
  · have : u * 6 ≤ u * (δ n : Int) := Int.mul_le_mul_of_nonneg_left (by omega) (by omega)
    omega
  · rw [q, z] at e
    have : u * ((5 : Nat) : Int) = 5 * u := by omega
    omega
  · rw [q] at e
    have : u * ((5 : Nat) : Int) = 5 * u := by omega
    omega
set_option maxRecDepth 10000 in
theorem s367 {δ : Nat → Nat} {n : Nat} (hn : n ≤ 1300) (h9 : ∀ i, δ i ≤ 9) {upd_ : Nat → Int32} (hup : ∀ i, i < n → upd_ i = iI (δ i)) (b l us en hn_ ln_ ep dn dp up_ lp hp_ : Int32) (ed hd ld : Nat → Int32) (lc : Nat → Int64) :
    ∀ (k i m : Nat) (c : Nat → Int32), i + k = n → k < m → (∀ j, j < i → c j = iI (δ j)) → ∃ c', f_Md_shortest_367 m (iI i) b l us en ed lc hn_ hd ln_ ld ep dn c dp (iI n) upd_ up_ lp hp_ = some (us, en, ed, lc, hn_, hd, ln_, ld, ep, dn, c', dp, iI n, upd_, up_, lp, hp_) ∧ ∀ j, j < n → c' j = iI (δ j)
  | 0, i, m + 1, c, hi, hm, hc => by
    rw [f_Md_shortest_367]
    simp (disch := omega) only [iI_lit, iL_lit, iI_add, iI_sub, iI_mul, iI_neg, iL_add, iL_sub, iL_mul, iL_neg, iI_lt, iI_le, iI_eq, iL_lt, iL_le, iL_eqS, iI_c, iI_ok, iI_l, iL_i, iI_low, l_ushrI, l_shlI, l_shrI, i_shlI, i_shrI, i_ushrI, iI_div, iL_div, Int.toNat_natCast, Int.reduceToNat, iI_ofNat]
    rw [if_pos (by omega)]
    exact ⟨c, rfl, fun j hj => hc j (by omega)⟩
  | k + 1, i, m + 1, c, hi, hm, hc => by
    rw [f_Md_shortest_367]
    have := h9 i
    simp (disch := omega) only [iI_lit, iL_lit, iI_add, iI_sub, iI_mul, iI_neg, iL_add, iL_sub, iL_mul, iL_neg, iI_lt, iI_le, iI_eq, iL_lt, iL_le, iL_eqS, iI_c, iI_ok, iI_l, iL_i, iI_low, l_ushrI, l_shlI, l_shrI, i_shlI, i_shrI, i_ushrI, iI_div, iL_div, Int.toNat_natCast, Int.reduceToNat, iI_ofNat]
    rw [if_neg (by omega), if_pos (by omega), if_pos (by omega), hup i (by omega), nar_bs, sb_small (by omega) (by omega), show ((i : Int) + 1) = ((i + 1 : Nat) : Int) by omega]
    exact s367 hn h9 hup b l us en hn_ ln_ ep dn dp up_ lp hp_ ed hd ld lc k (i + 1) m _ (by omega) (by omega) (fun j hj => by
      by_cases e : j = i
      · subst e; rw [upd_s]
      · rw [upd_n e]; exact hc j (by omega))
-- S2
set_option maxRecDepth 10000 in
theorem mant_b {C Q : Int} (hC0 : 0 < C) (hC1 : C < 72057594037927936) (hQ0 : -1080 ≤ Q) (hQ1 : Q ≤ 980) : 0 < mantI C Q ∧ mantI C Q < 2 ^ 2600 := by
  unfold mantI
  by_cases h : 0 ≤ Q
  · rw [if_pos h]
    have := p2_pos Q.toNat
    have hm := p2_mono (show Q.toNat ≤ 980 by omega)
    refine ⟨Int.mul_pos hC0 this, ?_⟩
    have : C * 2 ^ Q.toNat ≤ 72057594037927936 * 2 ^ 980 := Int.mul_le_mul (by omega) hm (by omega) (by omega)
    have e : (72057594037927936 : Int) * 2 ^ 980 < 2 ^ 2600 := by decide +kernel
    exact Int.lt_of_le_of_lt this e
  · rw [if_neg h]
    have := p5_pos (-Q).toNat
    have hm := p5_mono (show (-Q).toNat ≤ 1080 by omega)
    refine ⟨Int.mul_pos hC0 this, ?_⟩
    have : C * 5 ^ (-Q).toNat ≤ 72057594037927936 * 5 ^ 1080 := Int.mul_le_mul (by omega) hm (by omega) (by omega)
    have e : (72057594037927936 : Int) * 5 ^ 1080 < 2 ^ 2600 := by decide +kernel
    exact Int.lt_of_le_of_lt this e
set_option maxRecDepth 10000 in
theorem pt_b {C Q : Int} (hC0 : 0 < C) (hC1 : C < 72057594037927936) (hQ0 : -1080 ≤ Q) (hQ1 : Q ≤ 980) : -600 ≤ (nd (mantI C Q).toNat : Int) + min Q 0 ∧ (nd (mantI C Q).toNat : Int) + min Q 0 ≤ 599 := by
  have hpos := (mant_b hC0 hC1 hQ0 hQ1).1
  by_cases h : 0 ≤ Q
  · have e : mantI C Q = C * 2 ^ Q.toNat := by unfold mantI; rw [if_pos h]
    have hm := p2_mono (show Q.toNat ≤ 980 by omega)
    have hp := p2_pos Q.toNat
    have h1 : C * 2 ^ Q.toNat ≤ 72057594037927936 * 2 ^ 980 := Int.mul_le_mul (by omega) hm (by omega) (by omega)
    have e2 : (72057594037927936 : Int) * 2 ^ 980 < ((10 ^ 400 : Nat) : Int) := by decide +kernel
    have h3 : mantI C Q < ((10 ^ 400 : Nat) : Int) := by rw [e]; exact Int.lt_of_le_of_lt h1 e2
    clear e2 h1
    have : nd (mantI C Q).toNat ≤ 400 := by
      apply nd_le_of
      generalize 10 ^ 400 = Z at *
      omega
    omega
  · have e : mantI C Q = C * 5 ^ (-Q).toNat := by unfold mantI; rw [if_neg h]
    obtain ⟨k, hk⟩ : ∃ k : Nat, (-Q).toNat = k := ⟨_, rfl⟩
    rw [hk] at e
    have hp5 := p5_pos k
    -- above: 5^k is at most 10^k
    have hup : nd (mantI C Q).toNat ≤ 17 + k := by
      apply nd_le_of
      have h1 : (5 : Int) ^ k ≤ 10 ^ k := by
        rw [p10_25]
        have := Int.mul_le_mul_of_nonneg_right (show (1 : Int) ≤ 2 ^ k from p2_pos k) (show (0 : Int) ≤ 5 ^ k by omega)
        rw [Int.one_mul] at this
        exact this
      have h2 : C * 5 ^ k < 100000000000000000 * 10 ^ k := Int.lt_of_le_of_lt (Int.mul_le_mul_of_nonneg_left h1 (by omega)) (Int.mul_lt_mul_of_pos_right (by omega) (p10_pos k))
      have h3 : ((10 ^ (17 + k) : Nat) : Int) = 100000000000000000 * 10 ^ k := by rw [Nat.pow_add, Int.natCast_mul, Int.natCast_pow, Int.natCast_pow]; rfl
      rw [← e, ← h3] at h2
      generalize 10 ^ (17 + k) = Z at *
      omega
    -- below: 10^(k-600) is at most 5^k
    have hlo : k ≤ nd (mantI C Q).toNat + 600 := by
      rcases Nat.lt_or_ge (nd (mantI C Q).toNat + 600) k with q | q
      · exfalso
        have h1 := nd_lt (mantI C Q).toNat
        have h2 : ((mantI C Q).toNat : Int) < ((10 ^ nd (mantI C Q).toNat : Nat) : Int) := Int.ofNat_lt.mpr h1
        rw [Int.toNat_of_nonneg (by omega), Int.natCast_pow] at h2
        have h3 : (10 : Int) ^ nd (mantI C Q).toNat ≤ 10 ^ (k - 601) := p10I_mono (by omega)
        have h4 : (5 : Int) ^ k ≤ mantI C Q := by
          rw [e]
          have := Int.mul_le_mul_of_nonneg_right (show (1 : Int) ≤ C by omega) (show (0 : Int) ≤ 5 ^ k by omega)
          rw [Int.one_mul] at this
          exact this
        have h5 : (5 : Int) ^ k < 10 ^ (k - 601) := by have h3' : (10 : Int) ^ nd (mantI C Q).toNat ≤ 10 ^ (k - 601) := h3; exact Int.lt_of_le_of_lt h4 (Int.lt_of_lt_of_le h2 h3)
        have h6 : (10 : Int) ^ k = 10 ^ (k - 601) * 10 ^ 601 := by rw [← Int.pow_add]; congr 1; omega
        have h7 : (2 : Int) ^ k ≤ 2 ^ 1080 := p2_mono (by omega)
        have h8 : (2 : Int) ^ 1080 ≤ 10 ^ 601 := by decide +kernel
        have h9 : (10 : Int) ^ k = 5 ^ k * 2 ^ k := by rw [p10_25, Int.mul_comm]
        have h10 : (5 : Int) ^ k * 2 ^ k ≤ 5 ^ k * 10 ^ 601 := Int.mul_le_mul_of_nonneg_left (Int.le_trans h7 h8) (by clear h8 h7 h6; omega)
        have h11 : (5 : Int) ^ k * 10 ^ 601 < 10 ^ (k - 601) * 10 ^ 601 := Int.mul_lt_mul_of_pos_right h5 (p10_pos 601)
        rw [← h9, h6] at h10
        generalize (10 : Int) ^ 601 = Z at *
        clear h8
        exact absurd (Int.lt_of_le_of_lt h10 h11) (Int.lt_irrefl _)
      · exact q
    omega
set_option maxRecDepth 10000 in
theorem short_uniq {c q w ev Df P Df' P' : Int} (h1 : isShortN c q w ev Df P) (h2 : isShortN c q w ev Df' P') : Df = Df' ∧ P = P' := by
  obtain ⟨p, N, a1, a2, a3, a4, a5, a6, a7, a8, a9, a10⟩ := h1
  obtain ⟨p', N', b1, b2, b3, b4, b5, b6, b7, b8, b9, b10⟩ := h2
  have hp : p = p' := by
    rcases Int.lt_trichotomy p p' with r | r | r
    · exfalso
      have hm := p10I_mono (show (p + 2000).toNat + 1 ≤ (p' + 2000).toNat by omega)
      rw [Int.pow_succ] at hm
      generalize (10 : Int) ^ (p + 2000).toNat = A at *
      generalize (10 : Int) ^ (p' + 2000).toNat = B at *
      generalize 4 * c * gq (q - 2) = X at *
      omega
    · exact r
    · exfalso
      have hm := p10I_mono (show (p' + 2000).toNat + 1 ≤ (p + 2000).toNat by omega)
      rw [Int.pow_succ] at hm
      generalize (10 : Int) ^ (p + 2000).toNat = A at *
      generalize (10 : Int) ^ (p' + 2000).toNat = B at *
      generalize 4 * c * gq (q - 2) = X at *
      omega
  subst hp
  have hN : N = N' := by
    rcases Nat.lt_trichotomy N N' with r | r | r
    · exact absurd a5 (b6 N a3 r)
    · exact r
    · exact absurd b5 (a6 N' b3 r)
  subst hN
  have hD : Df = Df' := by rw [a7, b7]
  exact ⟨hD, by rw [a8, b8, hD]⟩
-- S3
set_option maxRecDepth 10000 in
abbrev RX (c q w : Int) (M : Nat) (p : Int) (en : Nat) (ed : Nat → Int32) (ln : Nat) (lp : Int) (ld : Nat → Int32) (hn : Nat) (hp : Int) (hd : Nat → Int32) : Prop := (0 < c) ∧ (c < 9007199254740992) ∧ (-1074 ≤ q) ∧ (q ≤ 971) ∧ (w = 1 ∨ w = 2) ∧ ((M : Int) = mantI c q) ∧ (p = (nd M : Int) + min q 0) ∧ (DL 1300 (iI en) ed en (digF M)) ∧ (isStrip (digF M) en) ∧ (∃ lδ, DL 1300 (iI ln) ld ln lδ ∧ lδ 0 ≠ 0 ∧ rv lδ ln lp = 4 * c * gq (q - 2) - w * gq (q - 2)) ∧ (-600 ≤ lp ∧ lp ≤ 600) ∧ (∃ hδ, DL 1300 (iI hn) hd hn hδ ∧ hδ 0 ≠ 0 ∧ rv hδ hn hp = 4 * c * gq (q - 2) + 2 * gq (q - 2)) ∧ (-600 ≤ hp ∧ hp ≤ 600)
set_option maxRecDepth 10000 in
theorem RX.c0 {c q w : Int} {M : Nat} {p : Int} {en : Nat} {ed : Nat → Int32} {ln : Nat} {lp : Int} {ld : Nat → Int32} {hn : Nat} {hp : Int} {hd : Nat → Int32} (h_ : RX c q w M p en ed ln lp ld hn hp hd) : 0 < c := h_.1
set_option maxRecDepth 10000 in
theorem RX.c1 {c q w : Int} {M : Nat} {p : Int} {en : Nat} {ed : Nat → Int32} {ln : Nat} {lp : Int} {ld : Nat → Int32} {hn : Nat} {hp : Int} {hd : Nat → Int32} (h_ : RX c q w M p en ed ln lp ld hn hp hd) : c < 9007199254740992 := h_.2.1
set_option maxRecDepth 10000 in
theorem RX.q0 {c q w : Int} {M : Nat} {p : Int} {en : Nat} {ed : Nat → Int32} {ln : Nat} {lp : Int} {ld : Nat → Int32} {hn : Nat} {hp : Int} {hd : Nat → Int32} (h_ : RX c q w M p en ed ln lp ld hn hp hd) : -1074 ≤ q := h_.2.2.1
set_option maxRecDepth 10000 in
theorem RX.q1 {c q w : Int} {M : Nat} {p : Int} {en : Nat} {ed : Nat → Int32} {ln : Nat} {lp : Int} {ld : Nat → Int32} {hn : Nat} {hp : Int} {hd : Nat → Int32} (h_ : RX c q w M p en ed ln lp ld hn hp hd) : q ≤ 971 := h_.2.2.2.1
set_option maxRecDepth 10000 in
theorem RX.w12 {c q w : Int} {M : Nat} {p : Int} {en : Nat} {ed : Nat → Int32} {ln : Nat} {lp : Int} {ld : Nat → Int32} {hn : Nat} {hp : Int} {hd : Nat → Int32} (h_ : RX c q w M p en ed ln lp ld hn hp hd) : w = 1 ∨ w = 2 := h_.2.2.2.2.1
set_option maxRecDepth 10000 in
theorem RX.hM {c q w : Int} {M : Nat} {p : Int} {en : Nat} {ed : Nat → Int32} {ln : Nat} {lp : Int} {ld : Nat → Int32} {hn : Nat} {hp : Int} {hd : Nat → Int32} (h_ : RX c q w M p en ed ln lp ld hn hp hd) : (M : Int) = mantI c q := h_.2.2.2.2.2.1
set_option maxRecDepth 10000 in
theorem RX.pe {c q w : Int} {M : Nat} {p : Int} {en : Nat} {ed : Nat → Int32} {ln : Nat} {lp : Int} {ld : Nat → Int32} {hn : Nat} {hp : Int} {hd : Nat → Int32} (h_ : RX c q w M p en ed ln lp ld hn hp hd) : p = (nd M : Int) + min q 0 := h_.2.2.2.2.2.2.1
set_option maxRecDepth 10000 in
theorem RX.hE {c q w : Int} {M : Nat} {p : Int} {en : Nat} {ed : Nat → Int32} {ln : Nat} {lp : Int} {ld : Nat → Int32} {hn : Nat} {hp : Int} {hd : Nat → Int32} (h_ : RX c q w M p en ed ln lp ld hn hp hd) : DL 1300 (iI en) ed en (digF M) := h_.2.2.2.2.2.2.2.1
set_option maxRecDepth 10000 in
theorem RX.hEs {c q w : Int} {M : Nat} {p : Int} {en : Nat} {ed : Nat → Int32} {ln : Nat} {lp : Int} {ld : Nat → Int32} {hn : Nat} {hp : Int} {hd : Nat → Int32} (h_ : RX c q w M p en ed ln lp ld hn hp hd) : isStrip (digF M) en := h_.2.2.2.2.2.2.2.2.1
set_option maxRecDepth 10000 in
theorem RX.hL {c q w : Int} {M : Nat} {p : Int} {en : Nat} {ed : Nat → Int32} {ln : Nat} {lp : Int} {ld : Nat → Int32} {hn : Nat} {hp : Int} {hd : Nat → Int32} (h_ : RX c q w M p en ed ln lp ld hn hp hd) : ∃ lδ, DL 1300 (iI ln) ld ln lδ ∧ lδ 0 ≠ 0 ∧ rv lδ ln lp = 4 * c * gq (q - 2) - w * gq (q - 2) := h_.2.2.2.2.2.2.2.2.2.1
set_option maxRecDepth 10000 in
theorem RX.lb {c q w : Int} {M : Nat} {p : Int} {en : Nat} {ed : Nat → Int32} {ln : Nat} {lp : Int} {ld : Nat → Int32} {hn : Nat} {hp : Int} {hd : Nat → Int32} (h_ : RX c q w M p en ed ln lp ld hn hp hd) : -600 ≤ lp ∧ lp ≤ 600 := h_.2.2.2.2.2.2.2.2.2.2.1
set_option maxRecDepth 10000 in
theorem RX.hH {c q w : Int} {M : Nat} {p : Int} {en : Nat} {ed : Nat → Int32} {ln : Nat} {lp : Int} {ld : Nat → Int32} {hn : Nat} {hp : Int} {hd : Nat → Int32} (h_ : RX c q w M p en ed ln lp ld hn hp hd) : ∃ hδ, DL 1300 (iI hn) hd hn hδ ∧ hδ 0 ≠ 0 ∧ rv hδ hn hp = 4 * c * gq (q - 2) + 2 * gq (q - 2) := h_.2.2.2.2.2.2.2.2.2.2.2.1
set_option maxRecDepth 10000 in
theorem RX.hb {c q w : Int} {M : Nat} {p : Int} {en : Nat} {ed : Nat → Int32} {ln : Nat} {lp : Int} {ld : Nat → Int32} {hn : Nat} {hp : Int} {hd : Nat → Int32} (h_ : RX c q w M p en ed ln lp ld hn hp hd) : -600 ≤ hp ∧ hp ≤ 600 := h_.2.2.2.2.2.2.2.2.2.2.2.2
set_option maxRecDepth 10000 in
theorem low_arith {X u P un D ρ wh : Int} (hP : 0 < P) (hu : u = un * P) (e : u * D + ρ = X * P) (n0 : 0 ≤ ρ) : (X - wh ≤ D * un ↔ ρ ≤ wh * P) ∧ (X - wh < D * un ↔ ρ < wh * P) ∧ D * un ≤ X := by
  have ea : (D * un) * P = X * P - ρ := by
    have : u * D = D * un * P := by rw [hu]; grind
    omega
  generalize D * un = a at *
  refine ⟨?_, ?_, Int.le_of_mul_le_mul_right (show a * P ≤ X * P by omega) hP⟩
  · have : X - wh ≤ a ↔ (X - wh) * P ≤ a * P := ⟨fun r => Int.mul_le_mul_of_nonneg_right r (by omega), fun r => Int.le_of_mul_le_mul_right r hP⟩
    rw [this, ea, Int.sub_mul]; omega
  · have : X - wh < a ↔ (X - wh) * P < a * P := ⟨fun r => Int.mul_lt_mul_of_pos_right r hP, fun r => Int.lt_of_mul_lt_mul_right r (by omega)⟩
    rw [this, ea, Int.sub_mul]; omega
set_option maxRecDepth 10000 in
theorem upp_arith {X u P un D ρ h : Int} (hP : 0 < P) (hu : u = un * P) (e : u * D + ρ = X * P) (n1 : ρ < u) : ((D + 1) * un ≤ X + 2 * h ↔ u - ρ ≤ 2 * h * P) ∧ ((D + 1) * un < X + 2 * h ↔ u - ρ < 2 * h * P) ∧ X < (D + 1) * un := by
  have ea : ((D + 1) * un) * P = X * P + (u - ρ) := by
    have : (D + 1) * un * P = u * D + u := by rw [hu]; grind
    omega
  generalize (D + 1) * un = a at *
  refine ⟨?_, ?_, Int.lt_of_mul_lt_mul_right (show X * P < a * P by omega) (by omega)⟩
  · have : a ≤ X + 2 * h ↔ a * P ≤ (X + 2 * h) * P := ⟨fun r => Int.mul_le_mul_of_nonneg_right r (by omega), fun r => Int.le_of_mul_le_mul_right r hP⟩
    rw [this, ea, Int.add_mul]; omega
  · have : a < X + 2 * h ↔ a * P < (X + 2 * h) * P := ⟨fun r => Int.mul_lt_mul_of_pos_right r hP, fun r => Int.lt_of_mul_lt_mul_right r (by omega)⟩
    rw [this, ea, Int.add_mul]; omega
set_option maxRecDepth 10000 in
theorem if_iff {A B : Prop} [Decidable A] [Decidable B] (h : A ↔ B) : (if A then (1 : Int) else 0) = if B then 1 else 0 := by
  by_cases q : A
  · rw [if_pos q, if_pos (h.mp q)]
  · rw [if_neg q, if_neg (fun r => q (h.mpr r))]
set_option maxRecDepth 10000 in
theorem rx_M {c q w : Int} {M : Nat} {p : Int} {en : Nat} {ed : Nat → Int32} {ln : Nat} {lp : Int} {ld : Nat → Int32} {hn : Nat} {hp : Int} {hd : Nat → Int32} (R : RX c q w M p en ed ln lp ld hn hp hd) : 0 < M := by have := (mant_b (C := c) (Q := q) R.c0 (by have := R.c1; omega) (by have := R.q0; omega) (by have := R.q1; omega)).1; have := R.hM; omega
set_option maxRecDepth 10000 in
theorem rx_p {c q w : Int} {M : Nat} {p : Int} {en : Nat} {ed : Nat → Int32} {ln : Nat} {lp : Int} {ld : Nat → Int32} {hn : Nat} {hp : Int} {hd : Nat → Int32} (R : RX c q w M p en ed ln lp ld hn hp hd) : -600 ≤ p ∧ p ≤ 599 := by
  have h := pt_b (C := c) (Q := q) R.c0 (by have := R.c1; omega) (by have := R.q0; omega) (by have := R.q1; omega)
  have e : (mantI c q).toNat = M := by have := R.hM; omega
  rw [e] at h
  rw [R.pe]; exact h
set_option maxRecDepth 10000 in
theorem rx_X {c q w : Int} {M : Nat} {p : Int} {en : Nat} {ed : Nat → Int32} {ln : Nat} {lp : Int} {ld : Nat → Int32} {hn : Nat} {hp : Int} {hd : Nat → Int32} (R : RX c q w M p en ed ln lp ld hn hp hd) : 4 * c * gq (q - 2) = (M : Int) * 10 ^ (min q 0 + 2000).toNat := by
  have h1 := xs_eq (c := c) (q := q) (by have := R.q0; omega)
  have h2 := gq_step (q := q) (by have := R.q0; omega)
  have h3 := gq_step (q := q - 1) (by have := R.q0; omega)
  rw [show q - 1 - 1 = q - 2 by omega] at h3
  unfold xs at h1
  rw [← R.hM] at h1
  rw [h1, h2, h3]
  generalize gq (q - 2) = g
  grind
set_option maxRecDepth 10000 in
theorem rx_D {c q w : Int} {M : Nat} {p : Int} {en : Nat} {ed : Nat → Int32} {ln : Nat} {lp : Int} {ld : Nat → Int32} {hn : Nat} {hp : Int} {hd : Nat → Int32} (R : RX c q w M p en ed ln lp ld hn hp hd) (n : Nat) : (pre (digF M) n : Int) = 4 * c * gq (q - 2) * 10 ^ n / 10 ^ (p + 2000).toNat := by
  rw [rx_X R, preD (e0 := (min q 0 + 2000).toNat), show (p + 2000).toNat = nd M + (min q 0 + 2000).toNat by have := R.pe; have := R.q0; omega]
set_option maxRecDepth 10000 in
theorem rx_L {c q w : Int} {M : Nat} {p : Int} {en : Nat} {ed : Nat → Int32} {ln : Nat} {lp : Int} {ld : Nat → Int32} {hn : Nat} {hp : Int} {hd : Nat → Int32} (R : RX c q w M p en ed ln lp ld hn hp hd) : 4 * c * gq (q - 2) * 10 ^ nd M % 10 ^ (p + 2000).toNat = 0 := by
  rw [rx_X R, show (p + 2000).toNat = nd M + (min q 0 + 2000).toNat by have := R.pe; have := R.q0; omega, Int.pow_add]
  have : (M : Int) * 10 ^ (min q 0 + 2000).toNat * 10 ^ nd M = (10 ^ nd M * 10 ^ (min q 0 + 2000).toNat) * M := by
    generalize (10 : Int) ^ (min q 0 + 2000).toNat = A
    generalize (10 : Int) ^ nd M = B
    grind
  rw [this, Int.mul_emod_right]
set_option maxRecDepth 10000 in
theorem rx_u {c q w : Int} {M : Nat} {p : Int} {en : Nat} {ed : Nat → Int32} {ln : Nat} {lp : Int} {ld : Nat → Int32} {hn : Nat} {hp : Int} {hd : Nat → Int32} (R : RX c q w M p en ed ln lp ld hn hp hd) {n : Nat} (hn1 : n ≤ 1300) : (10 : Int) ^ (p + 2000).toNat = 10 ^ (p - n + 2000).toNat * 10 ^ n := by
  have := rx_p R
  rw [← Int.pow_add]; congr 1; omega
set_option maxRecDepth 10000 in
theorem rx_down {c q w : Int} {M : Nat} {p : Int} {en : Nat} {ed : Nat → Int32} {ln : Nat} {lp : Int} {ld : Nat → Int32} {hn : Nat} {hp : Int} {hd : Nat → Int32} (R : RX c q w M p en ed ln lp ld hn hp hd) {ev : Int} (hev : ev = if c % 2 = 0 then 1 else 0) {n t : Nat} {cc : Nat → Int32} (hn0 : 0 < n) (hn1 : n < 1300) (hD : DL 1300 (iI t) cc t (cutF (digF M) n 0)) (hs : isStrip (cutF (digF M) n 0) t) :
    f_Md_reads (iL c) 1300 (iI t) (iI (p + cutC (digF M) n 0)) (iI ln) (iI lp) ld cc (iI hn) (iI hp) hd = some (iI (if lowN ev w (gq (q - 2)) (4 * c * gq (q - 2)) (10 ^ (p + 2000).toNat) n then 1 else 0)) := by
  obtain ⟨lδ, hL, hl0, hlv⟩ := R.hL
  obtain ⟨hδ, hH, hh0, hhv⟩ := R.hH
  have hpb := rx_p R
  have hc0 := R.c0
  have hc1 := R.c1
  have eF : cutF (digF M) n 0 = tr (digF M) n := by unfold cutF; rw [if_pos rfl]
  have eC : cutC (digF M) n 0 = 0 := by unfold cutC; rw [if_pos rfl]
  rw [eF] at hD hs
  rw [eC, Int.add_zero]
  have ha0 : tr (digF M) n 0 ≠ 0 := by unfold tr; rw [if_pos hn0]; exact digF_0 (rx_M R)
  rw [reads_spec (by omega) (by omega) hD hL hH ha0 hl0 hh0 ⟨by omega, by omega⟩ R.lb R.hb, hlv, hhv, rv_tr (by omega) hpb.1 hs, rx_D R n]
  have hu := rx_u R (n := n) (by omega)
  have hg := gq_pos (q - 2)
  have hP := p10_pos n
  have hw := R.w12
  have hwh : 0 < w * gq (q - 2) := Int.mul_pos (by omega) hg
  have hup := p10_pos (p + 2000).toNat
  have e := Int.mul_ediv_add_emod (4 * c * gq (q - 2) * 10 ^ n) (10 ^ (p + 2000).toNat)
  have n0 := Int.emod_nonneg (4 * c * gq (q - 2) * 10 ^ n) (show (10 : Int) ^ (p + 2000).toNat ≠ 0 by omega)
  obtain ⟨l1, l2, l3⟩ := low_arith (wh := w * gq (q - 2)) hP hu e n0
  congr 2
  by_cases h2 : c % 2 = 0
  · rw [if_pos h2] at hev ⊢
    refine if_iff ?_
    unfold lowN
    rw [l1]
    constructor
    · intro r; omega
    · intro r; exact ⟨by omega, by omega⟩
  · rw [if_neg h2] at hev ⊢
    refine if_iff ?_
    unfold lowN
    rw [l2]
    constructor
    · intro r; exact Or.inl r.1
    · intro r; exact ⟨by omega, by omega⟩
set_option maxRecDepth 10000 in
theorem rx_up {c q w : Int} {M : Nat} {p : Int} {en : Nat} {ed : Nat → Int32} {ln : Nat} {lp : Int} {ld : Nat → Int32} {hn : Nat} {hp : Int} {hd : Nat → Int32} (R : RX c q w M p en ed ln lp ld hn hp hd) {ev : Int} (hev : ev = if c % 2 = 0 then 1 else 0) {n t : Nat} {cc : Nat → Int32} (hn0 : 0 < n) (hn1 : n < 1300) (hD : DL 1300 (iI t) cc t (cutF (digF M) n 1)) (hs : isStrip (cutF (digF M) n 1) t) :
    f_Md_reads (iL c) 1300 (iI t) (iI (p + cutC (digF M) n 1)) (iI ln) (iI lp) ld cc (iI hn) (iI hp) hd = some (iI (if uppN ev (gq (q - 2)) (4 * c * gq (q - 2)) (10 ^ (p + 2000).toNat) n then 1 else 0)) := by
  obtain ⟨lδ, hL, hl0, hlv⟩ := R.hL
  obtain ⟨hδ, hH, hh0, hhv⟩ := R.hH
  have hpb := rx_p R
  have hc0 := R.c0
  have hc1 := R.c1
  have eF : cutF (digF M) n 1 = incF (tr (digF M) n) n := by unfold cutF; rw [if_neg (by decide)]
  have eC : cutC (digF M) n 1 = incC (tr (digF M) n) n := by unfold cutC; rw [if_neg (by decide)]
  have hC01 : incC (tr (digF M) n) n = 0 ∨ incC (tr (digF M) n) n = 1 := by unfold incC; split <;> simp
  rw [eF] at hD hs
  rw [eC]
  have ht0 : tr (digF M) n 0 ≠ 0 := by unfold tr; rw [if_pos hn0]; exact digF_0 (rx_M R)
  have hpre : pre (tr (digF M) n) n = pre (digF M) n := pre_congr (fun i hi => by unfold tr; rw [if_pos hi])
  rw [reads_spec (by omega) (by omega) hD hL hH (incF_0 ht0 hn0) hl0 hh0 ⟨by omega, by omega⟩ R.lb R.hb, hlv, hhv, rv_inc (by omega) (by omega) hs, hpre, rx_D R n]
  have hu := rx_u R (n := n) (by omega)
  have hg := gq_pos (q - 2)
  have hP := p10_pos n
  have hw := R.w12
  have hwh : 0 < w * gq (q - 2) := Int.mul_pos (by omega) hg
  have hup := p10_pos (p + 2000).toNat
  have e := Int.mul_ediv_add_emod (4 * c * gq (q - 2) * 10 ^ n) (10 ^ (p + 2000).toNat)
  have n1 := Int.emod_lt_of_pos (4 * c * gq (q - 2) * 10 ^ n) hup
  obtain ⟨l1, l2, l3⟩ := upp_arith (h := gq (q - 2)) hP hu e n1
  congr 2
  by_cases h2 : c % 2 = 0
  · rw [if_pos h2] at hev ⊢
    refine if_iff ?_
    unfold uppN
    rw [l1]
    constructor
    · intro r; omega
    · intro r; exact ⟨by omega, by omega⟩
  · rw [if_neg h2] at hev ⊢
    refine if_iff ?_
    unfold uppN
    rw [l2]
    constructor
    · intro r; exact Or.inl r.2
    · intro r; exact ⟨by omega, by omega⟩
-- S4
set_option maxRecDepth 10000 in
theorem row_down {M n : Nat} (hM : 0 < M) (hn : 0 < n) : tr (digF M) n = digF (pre (digF M) n) ∧ nd (pre (digF M) n) = n := by
  have h9 : ∀ i, tr (digF M) n i ≤ 9 := tr_le (digF_le M) n
  have h0 : tr (digF M) n 0 ≠ 0 := by unfold tr; rw [if_pos hn]; exact digF_0 hM
  have hpre : pre (tr (digF M) n) n = pre (digF M) n := pre_congr (fun i hi => by unfold tr; rw [if_pos hi])
  have e := digF_pre' h9 h0 hn (fun i hi => by unfold tr; rw [if_neg (by omega)])
  have e2 := (digF_pre h9 h0 hn).1
  rw [hpre] at e e2
  exact ⟨e.symm, e2⟩
set_option maxRecDepth 10000 in
theorem row_up {M n : Nat} (hM : 0 < M) (hn : 0 < n) : incF (tr (digF M) n) n = digF (pre (digF M) n + 1) ∧ (nd (pre (digF M) n + 1) : Int) = n + incC (tr (digF M) n) n := by
  have h9 : ∀ i, tr (digF M) n i ≤ 9 := tr_le (digF_le M) n
  have h0 : tr (digF M) n 0 ≠ 0 := by unfold tr; rw [if_pos hn]; exact digF_0 hM
  have hpre : pre (tr (digF M) n) n = pre (digF M) n := pre_congr (fun i hi => by unfold tr; rw [if_pos hi])
  cases h : last9 (tr (digF M) n) n with
  | none =>
    have eF : incF (tr (digF M) n) n = one1 := by unfold incF; rw [h]
    have eC : incC (tr (digF M) n) n = 1 := by unfold incC; rw [h]
    have hp := pre_nines (fun i hi => last9_none h i hi)
    rw [hpre] at hp
    rw [eF, eC, hp]
    have e1 : (10 : Nat) ^ n = 1 * 10 ^ n := by omega
    have d1 : digF 1 = one1 := by
      funext i
      have e : (1 : Nat) = 10 * 0 + 1 := rfl
      rw [e, digF_step (by omega) (by omega), nd_zero]
      unfold one1
      by_cases q : i = 0
      · rw [if_pos q, if_pos q]
      · rw [if_neg q, if_neg q, digF_out (by rw [nd_zero]; omega)]
    have n1 : nd 1 = 1 := by
      have e : (1 : Nat) = 10 * 0 + 1 := rfl
      rw [e, nd_step (by omega) (by omega), nd_zero]
    constructor
    · funext i
      rw [e1, digF_mul10, d1]
    · rw [e1, nd_mul10 n (by omega), n1]
      omega
  | some j =>
    have eC : incC (tr (digF M) n) n = 0 := by unfold incC; rw [h]
    have hj := last9_lt h
    have hz : ∀ i, n ≤ i → incF (tr (digF M) n) n i = 0 := by
      intro i hi
      unfold incF; rw [h]
      show (if i < j then tr (digF M) n i else if i = j then tr (digF M) n j + 1 else 0) = 0
      rw [if_neg (by omega), if_neg (by omega)]
    have e := digF_pre' (incF_le h9 n) (incF_0 h0 hn) hn hz
    have e2 := (digF_pre (incF_le h9 n) (incF_0 h0 hn) hn).1
    rw [pre_inc_some h, hpre] at e e2
    exact ⟨e.symm, by rw [e2, eC]; omega⟩
set_option maxRecDepth 10000 in
abbrev ShT := Int32 × Int32 × (Nat → Int32) × (Nat → Int64) × Int32 × (Nat → Int32) × Int32 × (Nat → Int32) × Int32 × Int32 × (Nat → Int32) × Int32 × Int32 × (Nat → Int32) × Int32 × Int32 × Int32
set_option maxRecDepth 10000 in
def mdRow (x : Option ShT) (δ : Nat → Nat) (P : Int) : Prop := ∃ y, x = some y ∧ ∃ t : Nat, y.2.2.2.2.2.2.2.2.2.1 = iI t ∧ DL 1300 (iI t) y.2.2.2.2.2.2.2.2.2.2.1 t δ ∧ isStrip δ t ∧ y.2.2.2.2.2.2.2.2.2.2.2.1 = iI P
set_option maxRecDepth 10000 in
theorem s308 {bl ab hv od : Int} (hbl : bl = 0 ∨ bl = 1) (hab : ab = 0 ∨ ab = 1) (hhv : hv = -1 ∨ hv = 0 ∨ hv = 1) (hod : od = 0 ∨ od = 1) (b l us en hn_ ln_ ep lp hp_ : Int32) (ed hd ld : Nat → Int32) (lc : Nat → Int64) {td tu : Nat} {dc uc : Nat → Int32} {α β : Nat → Nat} {pd pu : Int} (hd1 : DL 1300 (iI td) dc td α) (hd2 : isStrip α td) (hu1 : DL 1300 (iI tu) uc tu β) (hu2 : isStrip β tu) :
    mdRow (f_Md_shortest_308 (iI bl) (iI ab) (iI hv) (iI od) b l us en ed lc hn_ hd ln_ ld ep (iI td) dc (iI pd) (iI tu) uc (iI pu) lp hp_) (if bl = 1 ∧ (ab = 0 ∨ hv = -1 ∨ (hv = 0 ∧ od = 0)) then α else β) (if bl = 1 ∧ (ab = 0 ∨ hv = -1 ∨ (hv = 0 ∧ od = 0)) then pd else pu) := by
  have down : mdRow (some (us, en, ed, lc, hn_, hd, ln_, ld, ep, iI td, dc, iI pd, iI tu, uc, iI pu, lp, hp_)) α pd := ⟨_, rfl, td, rfl, hd1, hd2, rfl⟩
  have up : mdRow (f_Md_shortest_336 b l us en ed lc hn_ hd ln_ ld ep (iI td) dc (iI pd) (iI tu) uc (iI pu) lp hp_) β pu := by
    unfold f_Md_shortest_336
    obtain ⟨_, h1, h2, h3, h4⟩ := hu1
    obtain ⟨c', e, h5⟩ := s367 (δ := β) (n := tu) h1 h4 h2 b l us en hn_ ln_ ep (iI tu) (iI pu) (iI pu) lp hp_ ed hd ld lc tu 0 gx_fu dc (by omega) (by have := fu_pos; omega) (fun j hj => by omega)
    rw [show (0 : Int32) = iI ((0 : Nat) : Int) from rfl, e]
    exact ⟨_, rfl, tu, rfl, ⟨rfl, h1, h5, h3, h4⟩, hu2, rfl⟩
  unfold f_Md_shortest_308
  rcases hbl with rfl | rfl
  · rw [if_pos (by decide), if_neg (by omega), if_neg (by omega)]; exact up
  · rw [if_neg (by decide)]
    rcases hab with rfl | rfl
    · rw [if_pos (by decide), if_pos (by omega), if_pos (by omega)]; exact down
    · rw [if_neg (by decide)]
      rcases hhv with rfl | rfl | rfl
      · rw [if_pos (by decide), if_pos (by omega), if_pos (by omega)]; exact down
      · rw [if_neg (by decide), if_pos (by decide)]
        rcases hod with rfl | rfl
        · rw [if_pos (by decide), if_pos (by omega), if_pos (by omega)]; exact down
        · rw [if_neg (by decide), if_neg (by omega), if_neg (by omega)]; exact up
      · rw [if_neg (by decide), if_neg (by decide), if_neg (by omega), if_neg (by omega)]; exact up
