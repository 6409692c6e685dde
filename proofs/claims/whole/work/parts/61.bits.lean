/-! bits counted -/
def pb : Nat → Nat → Nat
  | 0, _ => 0
  | n + 1, x => x % 2 + pb n (x / 2)
theorem pb_0 : ∀ n, pb n 0 = 0 := by
  intro n
  induction n with
  | zero => rfl
  | succ n ih =>
    unfold pb
    rw [show 0 / 2 = 0 from rfl, ih]
theorem pb_le : ∀ n x, pb n x ≤ n := by
  intro n
  induction n with
  | zero => intro x; exact Nat.le_refl _
  | succ n ih =>
    intro x
    unfold pb
    have := ih (x / 2)
    omega
theorem and_m2 (a b : Nat) : (a &&& b) % 2 = (a % 2) &&& (b % 2) := Nat.and_mod_two_pow (n := 1)
theorem pb_kern : ∀ n x, x ≠ 0 → x < 2 ^ n → pb n (x &&& (x - 1)) + 1 = pb n x := by
  intro n
  induction n with
  | zero =>
    intro x h0 h1
    rw [Nat.pow_zero] at h1
    omega
  | succ n ih =>
    intro x h0 h1
    rw [Nat.pow_succ] at h1
    unfold pb
    rw [and_m2, Nat.and_div_two]
    rcases Nat.mod_two_eq_zero_or_one x with e | e
    · have q1 : (x - 1) % 2 = 1 := by omega
      have q2 : (x - 1) / 2 = x / 2 - 1 := by omega
      have := ih (x / 2) (by omega) (by omega)
      rw [e, q1, q2, Nat.zero_and]
      omega
    · have q1 : (x - 1) % 2 = 0 := by omega
      have q2 : (x - 1) / 2 = x / 2 := by omega
      rw [e, q1, q2, Nat.and_self, Nat.and_zero]
      omega
theorem n_and (a b : Nat) : Int32.ofNat a &&& Int32.ofNat b = Int32.ofNat (a &&& b) := by
  apply Int32.toBitVec_inj.mp
  rw [Int32.toBitVec_and]
  apply BitVec.eq_of_toNat_eq
  show ((BitVec.ofNat 32 a) &&& (BitVec.ofNat 32 b)).toNat = (BitVec.ofNat 32 (a &&& b)).toNat
  rw [BitVec.toNat_and, BitVec.toNat_ofNat, BitVec.toNat_ofNat, BitVec.toNat_ofNat, Nat.and_mod_two_pow]
/-- the reference's loop -/
theorem fn_204_lp {kk : Int32 → Option (Int32 × am_DD)} : ∀ (N s v : Nat), v < 2 ^ 31 → pb 31 v < N → fn_204_29 kk N (Int32.ofNat s) (Int32.ofNat v) = kk (Int32.ofNat (s + pb 31 v)) := by
  intro N
  induction N with
  | zero => intro s v _ h; omega
  | succ N ih =>
    intro s v hv h
    unfold fn_204_29
    by_cases z : v = 0
    · subst z
      rw [if_pos (show Int32.ofNat 0 = 0 from rfl), pb_0, Nat.add_zero]
    · have nz : ¬ Int32.ofNat v = 0 := fun w => z (n_inj (b := 0) hv (by omega) w)
      have e1 : Int32.ofNat v - 1 = Int32.ofNat (v - 1) := n_sub (b := 1) (by omega) hv
      have k := pb_kern 31 v z hv
      have lt : v &&& (v - 1) < 2 ^ 31 := Nat.lt_of_le_of_lt Nat.and_le_left hv
      rw [if_neg nz, e1, n_and, nI_up, ih (s + 1) _ lt (by omega), show s + 1 + pb 31 (v &&& (v - 1)) = s + pb 31 v by omega]
/-- a shift to the right, as naturals -/
theorem n_shr {a j : Nat} (ha : a < 2 ^ 31) (hj : j < 32) : ((Int32.ofNat a).toUInt32 >>> (Int32.toUInt32 (Int32.ofNat j) &&& Int32.toUInt32 31)).toInt32 = Int32.ofNat (a / 2 ^ j) := by
  have hj2 : (Int32.toUInt32 (Int32.ofNat j) &&& Int32.toUInt32 31) = UInt32.ofNat j := by
    have : ∀ j, j < 32 → (Int32.toUInt32 (Int32.ofNat j) &&& Int32.toUInt32 31) = UInt32.ofNat j := by decide +kernel
    exact this j hj
  rw [hj2]
  apply Int32.toBitVec_inj.mp
  apply BitVec.eq_of_toNat_eq
  show ((BitVec.ofNat 32 a) >>> ((UInt32.ofNat j).toBitVec % 32)).toNat = (BitVec.ofNat 32 (a / 2 ^ j)).toNat
  have hj3 : ((UInt32.ofNat j).toBitVec % 32).toNat = j := by
    have : ∀ j, j < 32 → ((UInt32.ofNat j).toBitVec % 32).toNat = j := by decide +kernel
    exact this j hj
  rw [BitVec.ushiftRight_eq', BitVec.toNat_ushiftRight, hj3, BitVec.toNat_ofNat, BitVec.toNat_ofNat, Nat.shiftRight_eq_div_pow, Nat.mod_eq_of_lt (by omega), Nat.mod_eq_of_lt (Nat.lt_of_le_of_lt (Nat.div_le_self _ _) (by omega))]
