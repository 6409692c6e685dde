/-! the mean pitch is a number: by the kernel, all sums and counts (about four minutes) -/
def mp_q (y kp : Nat) : UInt32 := FP.fdiv (FP.i2f (Int32.ofNat y)) (FP.i2f (Int32.ofNat kp))
def mp_ok (q : UInt32) : Bool := decide (q &&& 0x7fffffff ≤ 0x7f800000) && (decide (FP.f2d q &&& 0x7fffffffffffffff ≤ 0x7ff0000000000000) && decide (Op.cmpValue (FP.dcmp (FP.f2d q) (FP.f2d q)) .l = 0))
def mp_row (kp : Nat) : Bool := (List.range (30 * kp + 1)).all (fun y => mp_ok (mp_q y kp))
set_option maxRecDepth 100000 in
theorem mp_1 : ∀ i, i < 25 → mp_row (1 + i) = true := by decide +kernel
set_option maxRecDepth 100000 in
theorem mp_2 : ∀ i, i < 12 → mp_row (26 + i) = true := by decide +kernel
set_option maxRecDepth 100000 in
theorem mp_3 : ∀ i, i < 9 → mp_row (38 + i) = true := by decide +kernel
set_option maxRecDepth 100000 in
theorem mp_4 : ∀ i, i < 8 → mp_row (47 + i) = true := by decide +kernel
set_option maxRecDepth 100000 in
theorem mp_5 : ∀ i, i < 6 → mp_row (55 + i) = true := by decide +kernel
theorem mp_all {y kp : Nat} (h0 : 1 ≤ kp) (h1 : kp ≤ 60) (h : y ≤ 30 * kp) : mp_ok (mp_q y kp) = true := by
  have hr : mp_row kp = true := by
    by_cases a : kp < 26
    · have := mp_1 (kp - 1) (by omega)
      rwa [show 1 + (kp - 1) = kp by omega] at this
    · by_cases b : kp < 38
      · have := mp_2 (kp - 26) (by omega)
        rwa [show 26 + (kp - 26) = kp by omega] at this
      · by_cases c : kp < 47
        · have := mp_3 (kp - 38) (by omega)
          rwa [show 38 + (kp - 38) = kp by omega] at this
        · by_cases d : kp < 55
          · have := mp_4 (kp - 47) (by omega)
            rwa [show 47 + (kp - 47) = kp by omega] at this
          · have := mp_5 (kp - 55) (by omega)
            rwa [show 55 + (kp - 55) = kp by omega] at this
  exact List.all_eq_true.mp hr y (List.mem_range.mpr (by omega))
