/-! distinct values and greatest values: note by note, and run by run -/
def dc (f : Nat → Nat) : Nat → Nat
  | 0 => 0
  | n + 1 => dc f n + (if ∀ j, j < n → f j ≠ f n then 1 else 0)
def mx (f : Nat → Nat) : Nat → Nat
  | 0 => 0
  | n + 1 => if mx f n < f n then f n else mx f n
theorem rn_on {rn : Nat → Nat} (r0 : rn 0 = 0) (r1 : ∀ q, rn (q + 1) = rn q ∨ rn (q + 1) = rn q + 1) : ∀ q j, j ≤ rn q → ∃ q', q' ≤ q ∧ rn q' = j := by
  intro q
  induction q with
  | zero =>
    intro j hj
    exact ⟨0, Nat.le_refl _, by omega⟩
  | succ q ih =>
    intro j hj
    rcases r1 q with e | e
    · obtain ⟨q', a, b⟩ := ih j (by omega)
      exact ⟨q', by omega, b⟩
    · by_cases z : j = rn q + 1
      · exact ⟨q + 1, Nat.le_refl _, by omega⟩
      · obtain ⟨q', a, b⟩ := ih j (by omega)
        exact ⟨q', by omega, b⟩
theorem rn_mono {rn : Nat → Nat} (r1 : ∀ q, rn (q + 1) = rn q ∨ rn (q + 1) = rn q + 1) : ∀ c q, rn q ≤ rn (q + c) := by
  intro c
  induction c with
  | zero => intro q; exact Nat.le_refl _
  | succ c ih =>
    intro q
    have := ih q
    have e := r1 (q + c)
    rw [show q + (c + 1) = q + c + 1 by omega]
    omega
theorem dc_rn {rn G : Nat → Nat} (r0 : rn 0 = 0) (r1 : ∀ q, rn (q + 1) = rn q ∨ rn (q + 1) = rn q + 1) : ∀ q, dc (fun q => G (rn q)) (q + 1) = dc G (rn q + 1) := by
  intro q
  induction q with
  | zero =>
    rw [r0]
    unfold dc dc
    rw [if_pos (fun j hj => by omega), if_pos (fun j hj => by omega)]
  | succ q ih =>
    have e : dc (fun q => G (rn q)) (q + 1 + 1) = dc (fun q => G (rn q)) (q + 1) + (if ∀ j, j < q + 1 → G (rn j) ≠ G (rn (q + 1)) then 1 else 0) := rfl
    rw [e, ih]
    rcases r1 q with h | h
    · rw [if_neg (fun z => z q (by omega) (by rw [h])), h, Nat.add_zero]
    · have e2 : dc G (rn q + 1 + 1) = dc G (rn q + 1) + (if ∀ j, j < rn q + 1 → G j ≠ G (rn q + 1) then 1 else 0) := rfl
      rw [h, e2]
      by_cases z : ∀ j, j < rn q + 1 → G j ≠ G (rn q + 1)
      · rw [if_pos z, if_pos (fun j hj => z (rn j) (by
          have := rn_mono r1 (q - j) j
          rw [show j + (q - j) = q by omega] at this
          omega))]
      · rw [if_neg z, if_neg (fun w => z (fun j hj => by
          obtain ⟨q', a, b⟩ := rn_on r0 r1 q j (by omega)
          have := w q' (by omega)
          rw [b] at this
          exact this))]
theorem mx_ge {f : Nat → Nat} : ∀ n j, j < n → f j ≤ mx f n := by
  intro n
  induction n with
  | zero => intro j hj; omega
  | succ n ih =>
    intro j hj
    unfold mx
    by_cases z : j = n
    · subst z
      split <;> omega
    · have := ih j (by omega)
      split <;> omega
theorem mx_rn {rn G : Nat → Nat} (r0 : rn 0 = 0) (r1 : ∀ q, rn (q + 1) = rn q ∨ rn (q + 1) = rn q + 1) : ∀ q, mx (fun q => G (rn q)) (q + 1) = mx G (rn q + 1) := by
  intro q
  induction q with
  | zero =>
    rw [r0]
    show (if 0 < G (rn 0) then G (rn 0) else 0) = (if 0 < G 0 then G 0 else 0)
    rw [r0]
  | succ q ih =>
    have e : mx (fun q => G (rn q)) (q + 1 + 1) = (if mx (fun q => G (rn q)) (q + 1) < G (rn (q + 1)) then G (rn (q + 1)) else mx (fun q => G (rn q)) (q + 1)) := rfl
    rw [e, ih]
    rcases r1 q with h | h
    · have := mx_ge (f := G) (rn q + 1) (rn q) (by omega)
      rw [h, if_neg (by omega)]
    · rw [h]
      rfl
