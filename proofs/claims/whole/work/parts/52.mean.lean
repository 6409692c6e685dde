/-! the mean pitch is a number -/
def mp_q (y kp : Nat) : UInt32 := FP.fdiv (FP.i2f (Int32.ofNat y)) (FP.i2f (Int32.ofNat kp))
def mp_ok (q : UInt32) : Bool := decide (q &&& 0x7fffffff ≤ 0x7f800000) && (decide (FP.f2d q &&& 0x7fffffffffffffff ≤ 0x7ff0000000000000) && decide (Op.cmpValue (FP.dcmp (FP.f2d q) (FP.f2d q)) .l = 0))
theorem mp_c32 : FP.Core.b32.qmax = 104 ∧ FP.Core.b32.qmin = -149 ∧ FP.Core.b32.tails = 8388608 ∧ FP.Core.b32.exps = 256 ∧ 2 ^ FP.Core.b32.p = 16777216 := by decide +kernel
theorem mp_c64 : FP.Core.b64.qmax = 971 ∧ FP.Core.b64.qmin = -1074 ∧ FP.Core.b64.tails = 4503599627370496 ∧ FP.Core.b64.exps = 2048 ∧ 2 ^ FP.Core.b64.p = 9007199254740992 := by decide +kernel
theorem mp_fin32 {c : Nat} {q : Int} (hc : c < 16777216) (hq : q ≤ 104) : FP.Core.encode FP.Core.b32 (.fin false c q) ≤ 2139095040 := by
  obtain ⟨h1, h2, h3, h4, -⟩ := mp_c32
  have e : FP.Core.encode FP.Core.b32 (.fin false c q) = if c < FP.Core.b32.tails then FP.Core.assemble FP.Core.b32 false 0 c else FP.Core.assemble FP.Core.b32 false ((q - FP.Core.b32.qmin).toNat + 1) (c - FP.Core.b32.tails) := rfl
  rw [e]
  unfold FP.Core.assemble
  rw [h2, h3, h4]
  have hf : false.toNat = 0 := rfl
  rw [hf]
  split <;> omega
theorem mp_bound32 {c : Nat} {q : Int} (hc : c < 16777216) : FP.Core.encode FP.Core.b32 (FP.Core.bound FP.Core.b32 false c q) ≤ 2139095040 := by
  obtain ⟨h1, h2, h3, h4, -⟩ := mp_c32
  unfold FP.Core.bound
  rw [h1]
  split
  · exact mp_fin32 hc (by omega)
  · decide +kernel
theorem mp_enc32 (num den : Nat) (e : Int) : FP.Core.encode FP.Core.b32 (FP.Core.roundRatio FP.Core.b32 false num den e) ≤ 2139095040 := by
  obtain ⟨h1, h2, h3, h4, h5⟩ := mp_c32
  unfold FP.Core.roundRatio
  split
  · decide +kernel
  · unfold FP.Core.roundAt FP.Core.settle
    split
    · next hlt =>
      rw [h5] at hlt
      exact mp_bound32 hlt
    · exact mp_bound32 (by rw [h3]; omega)
theorem mp_fin64 {c : Nat} {q : Int} (hc : c < 9007199254740992) (hq : q ≤ 971) : FP.Core.encode FP.Core.b64 (.fin false c q) ≤ 9218868437227405312 := by
  obtain ⟨h1, h2, h3, h4, -⟩ := mp_c64
  have e : FP.Core.encode FP.Core.b64 (.fin false c q) = if c < FP.Core.b64.tails then FP.Core.assemble FP.Core.b64 false 0 c else FP.Core.assemble FP.Core.b64 false ((q - FP.Core.b64.qmin).toNat + 1) (c - FP.Core.b64.tails) := rfl
  rw [e]
  unfold FP.Core.assemble
  rw [h2, h3, h4]
  have hf : false.toNat = 0 := rfl
  rw [hf]
  split <;> omega
theorem mp_bound64 {c : Nat} {q : Int} (hc : c < 9007199254740992) : FP.Core.encode FP.Core.b64 (FP.Core.bound FP.Core.b64 false c q) ≤ 9218868437227405312 := by
  obtain ⟨h1, h2, h3, h4, -⟩ := mp_c64
  unfold FP.Core.bound
  rw [h1]
  split
  · exact mp_fin64 hc (by omega)
  · decide +kernel
theorem mp_enc64 (num den : Nat) (e : Int) : FP.Core.encode FP.Core.b64 (FP.Core.roundRatio FP.Core.b64 false num den e) ≤ 9218868437227405312 := by
  obtain ⟨h1, h2, h3, h4, h5⟩ := mp_c64
  unfold FP.Core.roundRatio
  split
  · decide +kernel
  · unfold FP.Core.roundAt FP.Core.settle
    split
    · next hlt =>
      rw [h5] at hlt
      exact mp_bound64 hlt
    · exact mp_bound64 (by rw [h3]; omega)
theorem mp_dec32 {n : Nat} (h : n ≤ 2139095040) : FP.Core.decode FP.Core.b32 n = .inf false ∨ ∃ c q, FP.Core.decode FP.Core.b32 n = .fin false c q := by
  obtain ⟨h1, h2, h3, h4, -⟩ := mp_c32
  have hs : FP.Core.fieldS FP.Core.b32 n = false := by
    unfold FP.Core.fieldS
    rw [h3, h4, show n / 8388608 / 256 % 2 = 0 by omega]
    rfl
  unfold FP.Core.decode
  rw [hs]
  by_cases a : FP.Core.fieldE FP.Core.b32 n = FP.Core.b32.exps - 1
  · rw [if_pos a]
    have b : FP.Core.fieldT FP.Core.b32 n = 0 := by
      unfold FP.Core.fieldE at a
      unfold FP.Core.fieldT
      rw [h3, h4] at a
      rw [h3]
      omega
    rw [if_pos b]
    exact Or.inl rfl
  · rw [if_neg a]
    right
    split
    · exact ⟨_, _, rfl⟩
    · exact ⟨_, _, rfl⟩
theorem mp_dec64 {n : Nat} (h : n ≤ 9218868437227405312) : FP.Core.decode FP.Core.b64 n = .inf false ∨ ∃ c q, FP.Core.decode FP.Core.b64 n = .fin false c q := by
  obtain ⟨h1, h2, h3, h4, -⟩ := mp_c64
  have hs : FP.Core.fieldS FP.Core.b64 n = false := by
    unfold FP.Core.fieldS
    rw [h3, h4, show n / 4503599627370496 / 2048 % 2 = 0 by omega]
    rfl
  unfold FP.Core.decode
  rw [hs]
  by_cases a : FP.Core.fieldE FP.Core.b64 n = FP.Core.b64.exps - 1
  · rw [if_pos a]
    have b : FP.Core.fieldT FP.Core.b64 n = 0 := by
      unfold FP.Core.fieldE at a
      unfold FP.Core.fieldT
      rw [h3, h4] at a
      rw [h3]
      omega
    rw [if_pos b]
    exact Or.inl rfl
  · rw [if_neg a]
    right
    split
    · exact ⟨_, _, rfl⟩
    · exact ⟨_, _, rfl⟩
theorem mp_self {x : UInt64} (h : x.toNat ≤ 9218868437227405312) : FP.dcmp x x = some .eq := by
  show FP.Core.order (FP.Core.decode FP.Core.b64 x.toNat) (FP.Core.decode FP.Core.b64 x.toNat) = some .eq
  rcases mp_dec64 h with e | ⟨c, q, e⟩
  · rw [e]
    decide +kernel
  · rw [e]
    have cc : ∀ a : Int, compare a a = .eq := fun a => by
      show compareOfLessAndEq a a = .eq
      unfold compareOfLessAndEq
      rw [if_neg (by omega), if_pos rfl]
    show some (compare _ _) = some .eq
    rw [cc]
theorem mp_gen {q : UInt32} (h : q.toNat ≤ 2139095040) : mp_ok q = true := by
  have d := mp_dec32 h
  have nn : FP.Core.fIsNaN q = false := by
    show decide (FP.Core.decode FP.Core.b32 q.toNat = .nan) = false
    rcases d with e | ⟨c, q', e⟩ <;> rw [e] <;> rfl
  have x1 : FP.f2d q = FP.Core.f2d q := by
    unfold FP.f2d
    rw [nn]
    rfl
  have x2 : FP.Core.convert FP.Core.b32 FP.Core.b64 q.toNat ≤ 9218868437227405312 := by
    unfold FP.Core.convert
    rcases d with e | ⟨c, q', e⟩
    · rw [e]
      decide +kernel
    · rw [e]
      exact mp_enc64 _ _ _
  have x3 : (FP.f2d q).toNat = FP.Core.convert FP.Core.b32 FP.Core.b64 q.toNat := by
    rw [x1]
    show (UInt64.ofNat _).toNat = _
    rw [UInt64.toNat_ofNat']
    exact Nat.mod_eq_of_lt (by omega)
  have c1 : q &&& 0x7fffffff ≤ 0x7f800000 := by
    rw [UInt32.le_iff_toNat_le, UInt32.toNat_and]
    have h1 : (0x7fffffff : UInt32).toNat = 2 ^ 31 - 1 := by decide
    have h2 : (0x7f800000 : UInt32).toNat = 2139095040 := by decide
    rw [h1, h2, Nat.and_two_pow_sub_one_eq_mod]
    omega
  have c2 : FP.f2d q &&& 0x7fffffffffffffff ≤ 0x7ff0000000000000 := by
    rw [UInt64.le_iff_toNat_le, UInt64.toNat_and, x3]
    have h1 : (0x7fffffffffffffff : UInt64).toNat = 2 ^ 63 - 1 := by decide
    have h2 : (0x7ff0000000000000 : UInt64).toNat = 9218868437227405312 := by decide
    rw [h1, h2, Nat.and_two_pow_sub_one_eq_mod]
    omega
  have c3 : Op.cmpValue (FP.dcmp (FP.f2d q) (FP.f2d q)) .l = 0 := by
    rw [mp_self (by rw [x3]; exact x2)]
    rfl
  unfold mp_ok
  rw [decide_eq_true c1, decide_eq_true c2, decide_eq_true c3]
  rfl
theorem mp_i2f {n : Nat} (h : n < 2 ^ 31) : (FP.i2f (Int32.ofNat n)).toNat ≤ 2139095040 := by
  show (UInt32.ofNat (FP.Core.fromInt FP.Core.b32 (Int32.ofNat n).toInt)).toNat ≤ _
  rw [t_ofNat h]
  have e : FP.Core.fromInt FP.Core.b32 (n : Int) = FP.Core.encode FP.Core.b32 (FP.Core.roundRatio FP.Core.b32 false n 1 0) := by
    unfold FP.Core.fromInt FP.Core.ofInt
    rw [show decide ((n : Int) < 0) = false from decide_eq_false (by omega)]
    rfl
  have b := mp_enc32 n 1 0
  rw [e, UInt32.toNat_ofNat']
  rw [Nat.mod_eq_of_lt (by omega)]
  exact b
def mp_div (kp : Nat) : Bool := match FP.Core.decode FP.Core.b32 (FP.i2f (Int32.ofNat kp)).toNat with
  | .fin s d _ => !s && decide (d ≠ 0)
  | _ => false
theorem mp_divs : ∀ i, i < 60 → mp_div (i + 1) = true := by decide +kernel
theorem mp_all {y kp : Nat} (h0 : 1 ≤ kp) (h1 : kp ≤ 60) (h : y ≤ 30 * kp) : mp_ok (mp_q y kp) = true := by
  refine mp_gen ?_
  have hd := mp_divs (kp - 1) (by omega)
  rw [show kp - 1 + 1 = kp by omega] at hd
  have hy := mp_dec32 (mp_i2f (n := y) (by omega))
  have hk := mp_dec32 (mp_i2f (n := kp) (by omega))
  have enc : FP.Core.div FP.Core.b32 (FP.i2f (Int32.ofNat y)).toNat (FP.i2f (Int32.ofNat kp)).toNat ≤ 2139095040 := by
    unfold FP.Core.div
    unfold mp_div at hd
    rcases hk with ek | ⟨d, r, ek⟩
    · rw [ek] at hd
      cases hd
    · rw [ek] at hd ⊢
      have hd0 : d ≠ 0 := by
        simp only [Bool.not_false, Bool.true_and, decide_eq_true_eq] at hd
        exact hd
      rcases hy with ey | ⟨c, q, ey⟩
      · rw [ey]
        show FP.Core.encode FP.Core.b32 (.inf false) ≤ _
        decide +kernel
      · rw [ey]
        have e : FP.Core.quotient FP.Core.b32 (.fin false c q) (.fin false d r) = FP.Core.roundRatio FP.Core.b32 false c d (q - r) := if_neg hd0
        rw [e]
        exact mp_enc32 _ _ _
  show (UInt32.ofNat (FP.Core.div FP.Core.b32 (FP.i2f (Int32.ofNat y)).toNat (FP.i2f (Int32.ofNat kp)).toNat)).toNat ≤ _
  rw [UInt32.toNat_ofNat', Nat.mod_eq_of_lt (by omega)]
  exact enc
