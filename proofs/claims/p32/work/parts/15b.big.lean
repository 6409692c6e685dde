/-! the large methods' words of the tables: bytes compared one behind another -/
def am_leq : List UInt8 → List UInt8 → Bool
  | [], [] => true
  | x :: xs, y :: ys => if x = y then am_leq xs ys else false
  | _, _ => false
theorem am_leq_eq : ∀ {xs ys : List UInt8}, am_leq xs ys = true → xs = ys := by
  intro xs
  induction xs with
  | nil => intro ys h; cases ys with
    | nil => rfl
    | cons y ys => cases h
  | cons x xs ih => intro ys h; cases ys with
    | nil => cases h
    | cons y ys =>
      rw [am_leq] at h
      split at h
      next e => rw [e, ih h]
      next => cases h
def am_ceq : Cond → Cond → Bool
  | .code y b n r, .code y' b' n' r' => decide (y = y') && (decide (n = n') && (decide (r = r') && am_leq b.data.toList b'.data.toList))
  | _, _ => false
theorem am_ceq_eq {c d : Cond} (h : am_ceq c d = true) : c = d := by
  cases c <;> cases d <;> first | (exact absurd h Bool.false_ne_true) | skip
  rename_i y b n r y' b' n' r'
  simp only [am_ceq, Bool.and_eq_true, decide_eq_true_eq] at h
  obtain ⟨rfl, rfl, rfl, h⟩ := h
  have h2 := am_leq_eq h
  obtain ⟨⟨b⟩⟩ := b
  obtain ⟨⟨b'⟩⟩ := b'
  simp only at h2
  rw [h2]
set_option maxRecDepth 100000 in
theorem am_big_all : am_big.all (fun a => lw_tbl.any (fun z => am_ceq (am_code a) z) && goodWord (am_code a)) = true := by decide +kernel
theorem am_big_in {a : Nat} (h : a ∈ am_big) : am_code a ∈ am_GW := by
  have h1 := List.all_eq_true.mp am_big_all a h
  simp only [Bool.and_eq_true] at h1
  obtain ⟨z, hz, h2⟩ := List.any_eq_true.mp h1.1
  rw [am_ceq_eq h2]
  rw [am_ceq_eq h2] at h1
  exact List.mem_filter.mpr ⟨hz, h1.2⟩
theorem am_cw_in {a : Nat} (h : ∀ w ∈ am_cw a, w ∈ am_GW) : am_code a ∈ am_GW := by
  by_cases hb : am_big.contains a = true
  · exact am_big_in (by simpa using hb)
  · exact h _ (by unfold am_cw; rw [if_neg hb]; exact List.mem_cons_self)
