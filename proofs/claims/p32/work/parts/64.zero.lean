/-! the start -/
def zA : nD := fun a k => if a = 1 then (if k = 1 then 40 else 0) else if a = 3 then (if k = 0 then 1 else if k = 1 then 40 else 0) else 0
set_option maxRecDepth 100000 in
theorem z_all : ∀ e ∈ lay, e.1 < 321 ∧ ∀ k, k < e.2 → k < ay_size (ay_SK.getD e.1 (.inr (0, 0, []))) ∧ ay_D0 e.1 k = Int32.ofNat (zA e.1 k) := by decide +kernel
set_option maxRecDepth 100000 in
theorem z_56 : 2 < ay_size (ay_SK.getD 56 (.inr (0, 0, []))) ∧ ay_D0 56 1 = 0 ∧ ay_D0 56 2 = 0 := by decide +kernel
theorem z_rel {D : am_DD} (h : ∀ a, a < 321 → ∀ k, k < ay_size (ay_SK.getD a (.inr (0, 0, []))) → D a k = ay_D0 a k) : rel zA D := by
  obtain ⟨s, v1, v2⟩ := z_56
  refine ⟨fun a k hl => ?_, 0, 0, ?_, by omega, ?_, by omega⟩
  · obtain ⟨e, he, h2⟩ := List.any_eq_true.mp hl
    simp only [Bool.and_eq_true, decide_eq_true_eq] at h2
    obtain ⟨rfl, hk⟩ := h2
    obtain ⟨z1, z2⟩ := z_all e he
    obtain ⟨z3, z4⟩ := z2 k hk
    rw [h e.1 z1 k z3, z4]
  · rw [h 56 (by omega) 1 (by omega), v1]; rfl
  · rw [h 56 (by omega) 2 (by omega), v2]; rfl
theorem z_inv : inv zA :=
  ⟨⟨Nat.zero_le _, fun _ hg => absurd hg (Nat.not_lt_zero _), fun _ _ hg => absurd hg (Nat.not_lt_zero _), fun _ _ _ => ⟨rfl, rfl, rfl, rfl⟩⟩,
   ⟨rfl, rfl, fun _ hr => absurd hr (Nat.not_lt_zero _), fun _ _ _ hr => absurd hr (Nat.not_lt_zero _)⟩,
   ⟨rfl, rfl, by decide, fun _ hq => absurd hq (Nat.not_lt_zero _), fun _ _ _ hq => absurd hq (Nat.not_lt_zero _)⟩,
   by decide, by decide, by decide, by decide, by decide⟩
theorem z_bnd : bnd 0 zA := ⟨by decide, fun _ _ => Nat.le_refl _, by decide, by decide, by decide⟩
/-! what the law asks at the start -/
theorem z_way {D : am_DD} (h : rel zA D) : ∃ D', fn_47 1 D = some (0, D') ∧ rel zA D' := by
  obtain ⟨D', d, r⟩ := w_1 h z_inv.1
  have e : wy true zA = 0 := by
    have h1 := wy_pos (A := zA) (mx := true)
    have h2 : ¬ 0 < zA 8 0 := Nat.not_lt_zero _
    omega
  rw [e] at d
  exact ⟨D', d, r⟩
theorem z_mean {D : am_DD} (h : rel zA D) : fn_68 D = some (FP.fconst0, D) := by
  have e : D 26 1 = 0 := h.a26 (k := 1) (by decide)
  unfold fn_68
  rw [e, if_pos (by decide)]
theorem z_note {D : am_DD} (h : rel zA D) : fn_29 2 D = some (-1, 0, D) := by
  have e : D 26 1 = 0 := h.a26 (k := 1) (by decide)
  have q0 : ¬ (2 : Int32) = 0 := by decide
  have q1 : ¬ (2 : Int32) = 1 := by decide
  unfold fn_29 fn_21
  rw [if_neg q0, if_neg q1, if_pos rfl, e, if_neg (not_not_intro rfl)]
theorem z_fcmp : Op.cmpValue (FP.fcmp FP.fconst0 FP.fconst0) .l = 0 := by decide +kernel
