/-! numbers: ints in a range as naturals; yes and no as 1 and 0 -/
def b01 (P : Prop) [Decidable P] : Int32 := if P then 1 else 0
theorem b01_t {P : Prop} [Decidable P] (h : P) : b01 P = 1 := if_pos h
theorem b01_f {P : Prop} [Decidable P] (h : ¬ P) : b01 P = 0 := if_neg h
theorem b01_isb {P : Prop} [Decidable P] : ay_isb (b01 P) = true := by
  unfold b01
  split <;> rfl
theorem b01_eq0 {P : Prop} [Decidable P] : b01 P = 0 ↔ ¬ P := by
  unfold b01
  constructor
  · intro h hP
    rw [if_pos hP] at h
    exact absurd h (by decide)
  · intro h
    rw [if_neg h]
abbrev rng (a : Int32) (lo hi : Int) : Prop := lo ≤ a.toInt ∧ a.toInt ≤ hi
theorem t_ofNat {n : Nat} (h : n < 2 ^ 31) : (Int32.ofNat n).toInt = (n : Int) := nI_toInt h
theorem c_ofNat {n : Nat} (h : n < 2 ^ 31) : (Int32.ofNat n).toNatClampNeg = n := nI_clamp h
theorem i_lt (a b : Int32) : a < b ↔ a.toInt < b.toInt := Int32.lt_iff_toInt_lt
theorem i_le (a b : Int32) : a ≤ b ↔ a.toInt ≤ b.toInt := Int32.le_iff_toInt_le
theorem i_eq (a b : Int32) : a = b ↔ a.toInt = b.toInt := Int32.toInt_inj.symm
theorem i_b1 (a : Int32) : -2147483648 ≤ a.toInt := by have := Int32.le_toInt a; simpa using this
theorem i_b2 (a : Int32) : a.toInt ≤ 2147483647 := by have := Int32.toInt_lt a; omega
/-- sums, differences, products without wrap-around -/
theorem t_add {a b : Int32} (h1 : -2147483648 ≤ a.toInt + b.toInt) (h2 : a.toInt + b.toInt ≤ 2147483647) : (a + b).toInt = a.toInt + b.toInt := by
  rw [Int32.toInt_add, Int.bmod_def]
  split <;> omega
theorem t_sub {a b : Int32} (h1 : -2147483648 ≤ a.toInt - b.toInt) (h2 : a.toInt - b.toInt ≤ 2147483647) : (a - b).toInt = a.toInt - b.toInt := by
  rw [Int32.toInt_sub, Int.bmod_def]
  split <;> omega
theorem t_subw (a b : Int32) : (a - b).toInt = a.toInt - b.toInt ∨ (a - b).toInt = a.toInt - b.toInt + 4294967296 ∨ (a - b).toInt = a.toInt - b.toInt - 4294967296 := by
  have ha := i_b1 a; have ha2 := i_b2 a; have hb := i_b1 b; have hb2 := i_b2 b
  rw [Int32.toInt_sub, Int.bmod_def]
  split <;> omega
/-- an int in a range is a natural's -/
theorem rng_nat {a : Int32} {hi : Int} (h : rng a 0 hi) : ∃ n : Nat, a = Int32.ofNat n ∧ (n : Int) ≤ hi ∧ n < 2 ^ 31 := by
  have h2 := i_b2 a
  obtain ⟨h0, h1⟩ := h
  refine ⟨a.toInt.toNat, ?_, by omega, by omega⟩
  apply Int32.toInt_inj.mp
  rw [t_ofNat (by omega)]
  omega
theorem n_add (a b : Nat) : Int32.ofNat a + Int32.ofNat b = Int32.ofNat (a + b) := (Int32.ofNat_add a b).symm
theorem n_mul (a b : Nat) : Int32.ofNat a * Int32.ofNat b = Int32.ofNat (a * b) := (Int32.ofNat_mul a b).symm
theorem n_sub {a b : Nat} (h : b ≤ a) (ha : a < 2 ^ 31) : Int32.ofNat a - Int32.ofNat b = Int32.ofNat (a - b) := by
  apply Int32.toInt_inj.mp
  rw [t_sub (by rw [t_ofNat ha, t_ofNat (by omega)]; omega) (by rw [t_ofNat ha, t_ofNat (by omega)]; omega), t_ofNat ha, t_ofNat (by omega), t_ofNat (by omega)]
  omega
theorem n_inj {a b : Nat} (ha : a < 2 ^ 31) (hb : b < 2 ^ 31) (h : Int32.ofNat a = Int32.ofNat b) : a = b := by
  have := (i_eq _ _).mp h
  rw [t_ofNat ha, t_ofNat hb] at this
  omega
theorem n_lt {a b : Nat} (ha : a < 2 ^ 31) (hb : b < 2 ^ 31) : (Int32.ofNat a < Int32.ofNat b) ↔ a < b := by
  rw [i_lt, t_ofNat ha, t_ofNat hb]
  omega
theorem n_le {a b : Nat} (ha : a < 2 ^ 31) (hb : b < 2 ^ 31) : (Int32.ofNat a ≤ Int32.ofNat b) ↔ a ≤ b := by
  rw [i_le, t_ofNat ha, t_ofNat hb]
  omega
theorem n_eq {a b : Nat} (ha : a < 2 ^ 31) (hb : b < 2 ^ 31) : (Int32.ofNat a = Int32.ofNat b) ↔ a = b := ⟨n_inj ha hb, fun h => by rw [h]⟩
theorem n_bad {n k : Nat} (hn : n < 2 ^ 31) (hk : k < n) : ¬ (Int32.ofNat k < 0 ∨ n ≤ (Int32.ofNat k).toNatClampNeg) := by
  rw [c_ofNat (by omega)]
  intro h
  rcases h with h | h
  · rw [i_lt, t_ofNat (by omega)] at h
    have : (0 : Int32).toInt = 0 := rfl
    omega
  · omega
theorem n_mod {a b : Nat} (ha : a < 2 ^ 31) (hb : b < 2 ^ 31) (hb0 : 0 < b) : Int32.ofNat a - Int32.ofNat a / Int32.ofNat b * Int32.ofNat b = Int32.ofNat (a % b) := by
  have hd : Int32.ofNat a / Int32.ofNat b = Int32.ofNat (a / b) := by
    apply Int32.toInt_inj.mp
    have h1 : a / b ≤ a := Nat.div_le_self a b
    rw [Int32.toInt_div, t_ofNat ha, t_ofNat hb, t_ofNat (by omega)]
    have h2 : ((a : Int).tdiv (b : Int)) = ((a / b : Nat) : Int) := by
      rw [Int.tdiv_eq_ediv_of_nonneg (by omega)]
      rfl
    rw [h2]
    generalize a / b = q at h1 ⊢
    rw [Int.bmod_def]
    split <;> omega
  rw [hd, n_mul, n_sub (Nat.div_mul_le_self a b) ha]
  congr 1
  have := Nat.div_add_mod a b
  rw [Nat.mul_comm] at this
  omega
theorem rw_put_nI {D : am_DD} {q n k : Nat} {v : Int32} (hk : k < n) (hn : n < 2 ^ 31) : rw_put D q n (Int32.ofNat k) v = am_upd D q k v := by
  unfold rw_put
  have h0 : ¬ Int32.ofNat k < 0 := nI_pos (n := k) (by omega)
  rw [if_neg h0, if_neg (nI_not_le hk hn), c_ofNat (by omega)]
theorem rw_raise_nI {D : am_DD} {q n k : Nat} {v : Int32} (hk : k < n) (hn : n < 2 ^ 31) : rw_raise D q n (Int32.ofNat k) v = am_upd D q k (D q k + v) := by
  unfold rw_raise
  have h0 : ¬ Int32.ofNat k < 0 := nI_pos (n := k) (by omega)
  rw [if_neg h0, if_neg (nI_not_le hk hn), c_ofNat (by omega)]
theorem u_self (D : am_DD) (a k : Nat) (v : Int32) : am_upd D a k v a k = v := by simp [am_upd]
theorem u_ne {D : am_DD} {a k a' k' : Nat} {v : Int32} (h : ¬ (a' = a ∧ k' = k)) : am_upd D a k v a' k' = D a' k' := by
  unfold am_upd
  by_cases h1 : a' = a
  · rw [if_pos h1]
    by_cases h2 : k' = k
    · exact absurd ⟨h1, h2⟩ h
    · rw [if_neg h2]
  · rw [if_neg h1]
theorem u_row {D : am_DD} {a k a' : Nat} {v : Int32} (h : a' ≠ a) : am_upd D a k v a' = D a' := by
  funext j
  exact u_ne (fun z => h z.1)
