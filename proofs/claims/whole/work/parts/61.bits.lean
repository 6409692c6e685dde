/-! bits counted -/
def pb : Nat → Nat → Nat
  | 0, _ => 0
  | n + 1, x => x % 2 + pb n (x / 2)
theorem pb_0 : ∀ n, pb n 0 = 0 := by
  intro n
  induction n with
  | zero => rfl
  | succ n ih =>
    unfold pb
    rw [show 0 / 2 = 0 from rfl, ih]
theorem pb_le : ∀ n x, pb n x ≤ n := by
  intro n
  induction n with
  | zero => intro x; exact Nat.le_refl _
  | succ n ih =>
    intro x
    unfold pb
    have := ih (x / 2)
    omega
theorem and_m2 (a b : Nat) : (a &&& b) % 2 = (a % 2) &&& (b % 2) := Nat.and_mod_two_pow (n := 1)
theorem pb_kern : ∀ n x, x ≠ 0 → x < 2 ^ n → pb n (x &&& (x - 1)) + 1 = pb n x := by
  intro n
  induction n with
  | zero =>
    intro x h0 h1
    rw [Nat.pow_zero] at h1
    omega
  | succ n ih =>
    intro x h0 h1
    rw [Nat.pow_succ] at h1
    unfold pb
    rw [and_m2, Nat.and_div_two]
    rcases Nat.mod_two_eq_zero_or_one x with e | e
    · have q1 : (x - 1) % 2 = 1 := by omega
      have q2 : (x - 1) / 2 = x / 2 - 1 := by omega
      have := ih (x / 2) (by omega) (by omega)
      rw [e, q1, q2, Nat.zero_and]
      omega
    · have q1 : (x - 1) % 2 = 0 := by omega
      have q2 : (x - 1) / 2 = x / 2 := by omega
      rw [e, q1, q2, Nat.and_self, Nat.and_zero]
      omega
theorem n_and (a b : Nat) : Int32.ofNat a &&& Int32.ofNat b = Int32.ofNat (a &&& b) := by
  apply Int32.toBitVec_inj.mp
  rw [Int32.toBitVec_and]
  apply BitVec.eq_of_toNat_eq
  show ((BitVec.ofNat 32 a) &&& (BitVec.ofNat 32 b)).toNat = (BitVec.ofNat 32 (a &&& b)).toNat
  rw [BitVec.toNat_and, BitVec.toNat_ofNat, BitVec.toNat_ofNat, BitVec.toNat_ofNat, Nat.and_mod_two_pow]
/-- the reference's loop -/
theorem fn_204_lp {kk : Int32 → Option (Int32 × am_DD)} : ∀ (N s v : Nat), v < 2 ^ 31 → pb 31 v < N → fn_204_29 kk N (Int32.ofNat s) (Int32.ofNat v) = kk (Int32.ofNat (s + pb 31 v)) := by
  intro N
  induction N with
  | zero => intro s v _ h; omega
  | succ N ih =>
    intro s v hv h
    unfold fn_204_29
    by_cases z : v = 0
    · subst z
      rw [if_pos (show Int32.ofNat 0 = 0 from rfl), pb_0, Nat.add_zero]
    · have nz : ¬ Int32.ofNat v = 0 := fun w => z (n_inj (b := 0) hv (by omega) w)
      have e1 : Int32.ofNat v - 1 = Int32.ofNat (v - 1) := n_sub (b := 1) (by omega) hv
      have k := pb_kern 31 v z hv
      have lt : v &&& (v - 1) < 2 ^ 31 := Nat.lt_of_le_of_lt Nat.and_le_left hv
      rw [if_neg nz, e1, n_and, nI_up, ih (s + 1) _ lt (by omega), show s + 1 + pb 31 (v &&& (v - 1)) = s + pb 31 v by omega]
/-- a shift to the right, as naturals -/
theorem n_shr {a j : Nat} (ha : a < 2 ^ 31) (hj : j < 32) : ((Int32.ofNat a).toUInt32 >>> (Int32.toUInt32 (Int32.ofNat j) &&& Int32.toUInt32 31)).toInt32 = Int32.ofNat (a / 2 ^ j) := by
  have hj2 : (Int32.toUInt32 (Int32.ofNat j) &&& Int32.toUInt32 31) = UInt32.ofNat j := by
    have : ∀ j, j < 32 → (Int32.toUInt32 (Int32.ofNat j) &&& Int32.toUInt32 31) = UInt32.ofNat j := by decide +kernel
    exact this j hj
  rw [hj2]
  apply Int32.toBitVec_inj.mp
  apply BitVec.eq_of_toNat_eq
  show ((BitVec.ofNat 32 a) >>> ((UInt32.ofNat j).toBitVec % 32)).toNat = (BitVec.ofNat 32 (a / 2 ^ j)).toNat
  have hj3 : ((UInt32.ofNat j).toBitVec % 32).toNat = j := by
    have : ∀ j, j < 32 → ((UInt32.ofNat j).toBitVec % 32).toNat = j := by decide +kernel
    exact this j hj
  rw [BitVec.ushiftRight_eq', BitVec.toNat_ushiftRight, hj3, BitVec.toNat_ofNat, BitVec.toNat_ofNat, Nat.shiftRight_eq_div_pow, Nat.mod_eq_of_lt (by omega), Nat.mod_eq_of_lt (Nat.lt_of_le_of_lt (Nat.div_le_self _ _) (by omega))]
/-! the class's formula, byte by byte -/
theorem and_byte (x y : Nat) : x &&& y = (x % 256 &&& y % 256) + 256 * (x / 256 &&& y / 256) := by
  have h1 : (x &&& y) % 256 = x % 256 &&& y % 256 := Nat.and_mod_two_pow (n := 8)
  have h2 : (x &&& y) / 256 = x / 256 &&& y / 256 := Nat.and_div_two_pow (n := 8)
  rw [← h1, ← h2]
  omega
theorem c_bytes : ∀ c, c < 256 → c * 16843009 % 256 = c ∧ c * 16843009 / 256 % 256 = c ∧ c * 16843009 / 256 / 256 % 256 = c ∧ c * 16843009 / 256 / 256 / 256 % 256 = c ∧ c * 16843009 / 256 / 256 / 256 / 256 = 0 := by decide +kernel
theorem and4 {x c : Nat} (hc : c < 256) : x &&& (c * 16843009) = (x % 256 &&& c) + 256 * ((x / 256 % 256 &&& c) + 256 * ((x / 65536 % 256 &&& c) + 256 * (x / 16777216 % 256 &&& c))) := by
  rw [and_byte x, and_byte (x / 256), and_byte (x / 256 / 256), and_byte (x / 256 / 256 / 256)]
  obtain ⟨q1, q2, q3, q4, q5⟩ := c_bytes c hc
  rw [q1, q2, q3, q4, q5, Nat.and_zero, show x / 256 / 256 = x / 65536 by omega, show x / 65536 / 256 = x / 16777216 by omega]
  omega
def fA (x : Nat) : Nat := x - (x / 2 &&& 1431655765)
def fB (x : Nat) : Nat := (x &&& 858993459) + (x / 4 &&& 858993459)
def fC (x : Nat) : Nat := (x + x / 16) &&& 252645135
def fE (x : Nat) : Nat := ((x + x / 256) + (x + x / 256) / 65536) &&& 63
/-- the same of one byte -/
def gA (b : Nat) : Nat := b - (b / 2 &&& 85)
def gB (b : Nat) : Nat := (b &&& 51) + (b / 4 &&& 51)
def gC (b : Nat) : Nat := b % 16 + b / 16
theorem g_1 : ∀ b, b < 256 → ∀ e, e < 2 → ((b / 2 + 128 * e) &&& 85) = (b / 2 &&& 85) ∧ (b / 2 &&& 85) ≤ b := by decide +kernel
theorem g_2 : ∀ b, b < 256 → gA b < 171 ∧ ∀ e, e < 4 → ((gA b / 4 + 64 * e) &&& 51) = (gA b / 4 &&& 51) := by decide +kernel
theorem g_3 : ∀ b, b < 256 → gB (gA b) % 16 ≤ 4 ∧ gB (gA b) / 16 ≤ 4 ∧ gC (gB (gA b)) = pb 8 b := by decide +kernel
theorem g_4 : ∀ b, b < 256 → (b &&& 15) = b % 16 := by decide +kernel
theorem pb_split : ∀ n m x, pb (n + m) x = pb n x + pb m (x / 2 ^ n) := by
  intro n
  induction n with
  | zero =>
    intro m x
    rw [Nat.pow_zero, Nat.div_one, Nat.zero_add]
    show _ = 0 + _
    rw [Nat.zero_add]
  | succ n ih =>
    intro m x
    rw [show n + 1 + m = (n + m) + 1 by omega]
    show x % 2 + pb (n + m) (x / 2) = x % 2 + pb n (x / 2) + _
    rw [ih m (x / 2), Nat.div_div_eq_div_mul, show 2 * 2 ^ n = 2 ^ (n + 1) by rw [Nat.pow_succ, Nat.mul_comm], Nat.add_assoc]
theorem pb_mod : ∀ n x, pb n (x % 2 ^ n) = pb n x := by
  intro n
  induction n with
  | zero => intro x; rfl
  | succ n ih =>
    intro x
    show x % 2 ^ (n + 1) % 2 + pb n (x % 2 ^ (n + 1) / 2) = x % 2 + pb n (x / 2)
    have e1 : x % 2 ^ (n + 1) % 2 = x % 2 := Nat.mod_mod_of_dvd x (Nat.pow_dvd_pow 2 (show 1 ≤ n + 1 by omega))
    have e2 : x % 2 ^ (n + 1) / 2 = x / 2 % 2 ^ n := by
      rw [Nat.pow_succ, Nat.mul_comm, Nat.mod_mul_right_div_self]
    rw [e1, e2, ih (x / 2)]
/-- four bytes put together -/
def by4 (b0 b1 b2 b3 : Nat) : Nat := b0 + 256 * (b1 + 256 * (b2 + 256 * b3))
theorem by4_and {b0 b1 b2 b3 c : Nat} (h0 : b0 < 256) (h1 : b1 < 256) (h2 : b2 < 256) (h3 : b3 < 256) (hc : c < 256) : by4 b0 b1 b2 b3 &&& (c * 16843009) = by4 (b0 &&& c) (b1 &&& c) (b2 &&& c) (b3 &&& c) := by
  rw [and4 hc]
  unfold by4
  rw [show (b0 + 256 * (b1 + 256 * (b2 + 256 * b3))) % 256 = b0 by omega, show (b0 + 256 * (b1 + 256 * (b2 + 256 * b3))) / 256 % 256 = b1 by omega, show (b0 + 256 * (b1 + 256 * (b2 + 256 * b3))) / 65536 % 256 = b2 by omega, show (b0 + 256 * (b1 + 256 * (b2 + 256 * b3))) / 16777216 % 256 = b3 by omega]
theorem by4_of {v : Nat} (h : v < 2 ^ 32) : ∃ b0 b1 b2 b3, b0 < 256 ∧ b1 < 256 ∧ b2 < 256 ∧ b3 < 256 ∧ v = by4 b0 b1 b2 b3 := by
  refine ⟨v % 256, v / 256 % 256, v / 65536 % 256, v / 16777216, by omega, by omega, by omega, by omega, ?_⟩
  unfold by4
  omega
theorem fA_4 {b0 b1 b2 b3 : Nat} (h0 : b0 < 256) (h1 : b1 < 256) (h2 : b2 < 256) (h3 : b3 < 256) : fA (by4 b0 b1 b2 b3) = by4 (gA b0) (gA b1) (gA b2) (gA b3) := by
  have e : by4 b0 b1 b2 b3 / 2 = by4 (b0 / 2 + 128 * (b1 % 2)) (b1 / 2 + 128 * (b2 % 2)) (b2 / 2 + 128 * (b3 % 2)) (b3 / 2 + 128 * 0) := by
    unfold by4
    omega
  have a := by4_and (b0 := b0 / 2 + 128 * (b1 % 2)) (b1 := b1 / 2 + 128 * (b2 % 2)) (b2 := b2 / 2 + 128 * (b3 % 2)) (b3 := b3 / 2 + 128 * 0) (c := 85) (by omega) (by omega) (by omega) (by omega) (by omega)
  have x0 := g_1 b0 h0 (b1 % 2) (by omega)
  have x1 := g_1 b1 h1 (b2 % 2) (by omega)
  have x2 := g_1 b2 h2 (b3 % 2) (by omega)
  have x3 := g_1 b3 h3 0 (by omega)
  rw [x0.1, x1.1, x2.1, x3.1] at a
  have a' : by4 b0 b1 b2 b3 / 2 &&& 1431655765 = by4 (b0 / 2 &&& 85) (b1 / 2 &&& 85) (b2 / 2 &&& 85) (b3 / 2 &&& 85) := by rw [e]; exact a
  unfold fA gA
  rw [a']
  have y0 := x0.2
  have y1 := x1.2
  have y2 := x2.2
  have y3 := x3.2
  generalize b0 / 2 &&& 85 = p0 at y0 ⊢
  generalize b1 / 2 &&& 85 = p1 at y1 ⊢
  generalize b2 / 2 &&& 85 = p2 at y2 ⊢
  generalize b3 / 2 &&& 85 = p3 at y3 ⊢
  unfold by4
  omega
theorem fB_4 {b0 b1 b2 b3 : Nat} (h0 : b0 < 256) (h1 : b1 < 256) (h2 : b2 < 256) (h3 : b3 < 256) : fB (by4 (gA b0) (gA b1) (gA b2) (gA b3)) = by4 (gB (gA b0)) (gB (gA b1)) (gB (gA b2)) (gB (gA b3)) := by
  obtain ⟨a0, z0⟩ := g_2 b0 h0
  obtain ⟨a1, z1⟩ := g_2 b1 h1
  obtain ⟨a2, z2⟩ := g_2 b2 h2
  obtain ⟨a3, z3⟩ := g_2 b3 h3
  generalize gA b0 = p0 at a0 z0 ⊢
  generalize gA b1 = p1 at a1 z1 ⊢
  generalize gA b2 = p2 at a2 z2 ⊢
  generalize gA b3 = p3 at a3 z3 ⊢
  have e : by4 p0 p1 p2 p3 / 4 = by4 (p0 / 4 + 64 * (p1 % 4)) (p1 / 4 + 64 * (p2 % 4)) (p2 / 4 + 64 * (p3 % 4)) (p3 / 4 + 64 * 0) := by
    unfold by4
    omega
  have a := by4_and (b0 := p0 / 4 + 64 * (p1 % 4)) (b1 := p1 / 4 + 64 * (p2 % 4)) (b2 := p2 / 4 + 64 * (p3 % 4)) (b3 := p3 / 4 + 64 * 0) (c := 51) (by omega) (by omega) (by omega) (by omega) (by omega)
  rw [z0 _ (by omega), z1 _ (by omega), z2 _ (by omega), z3 _ (by omega)] at a
  have a' : by4 p0 p1 p2 p3 / 4 &&& 858993459 = by4 (p0 / 4 &&& 51) (p1 / 4 &&& 51) (p2 / 4 &&& 51) (p3 / 4 &&& 51) := by rw [e]; exact a
  have b : by4 p0 p1 p2 p3 &&& 858993459 = by4 (p0 &&& 51) (p1 &&& 51) (p2 &&& 51) (p3 &&& 51) := by4_and (c := 51) (by omega) (by omega) (by omega) (by omega) (by omega)
  unfold fB gB
  rw [a', b]
  unfold by4
  omega
theorem fE_4 {q0 q1 q2 q3 : Nat} (h0 : q0 ≤ 8) (h1 : q1 ≤ 8) (h2 : q2 ≤ 8) (h3 : q3 ≤ 8) : fE (by4 q0 q1 q2 q3) = q0 + q1 + q2 + q3 := by
  have e : by4 q0 q1 q2 q3 + by4 q0 q1 q2 q3 / 256 = by4 (q0 + q1) (q1 + q2) (q2 + q3) q3 := by
    unfold by4
    omega
  have e2 : by4 (q0 + q1) (q1 + q2) (q2 + q3) q3 + by4 (q0 + q1) (q1 + q2) (q2 + q3) q3 / 65536 = by4 (q0 + q1 + (q2 + q3)) (q1 + q2 + q3) (q2 + q3) q3 := by
    unfold by4
    omega
  unfold fE
  rw [e, e2]
  have h63 : ∀ x : Nat, x &&& 63 = x % 64 := fun x => Nat.and_two_pow_sub_one_eq_mod x 6
  rw [h63]
  unfold by4
  omega
