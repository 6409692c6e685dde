/-! the reference's chords -/
/-- the chord of the q-th note's beat -/
def ch (D : am_DD) (kp q : Nat) : Nat := mk D (be D q) kp
section VK2
variable {D D' : am_DD} {m n kp o : Nat}
theorem ch_lt (h : vw D m n kp o) (q : Nat) : ch D kp q < 2 ^ 31 := mk_lt h _ kp (Nat.le_refl _)
theorem lp_202 (h : vw D m n kp o) (hD : D' 322 = D 322) {q : Nat} (hq : q < kp) : ∀ (c j N : Nat) (P : Prop) [Decidable P], j + c = q → c < N → fn_202_16 N (Int32.ofNat q) (Int32.ofNat (ch D kp q)) (b01 P) (Int32.ofNat j) D' = some (b01 (P ∧ ∀ i, i < q → j ≤ i → ch D kp i ≠ ch D kp q), D') := by
  have hk := h.1.2.2.1
  intro c
  induction c with
  | zero =>
    intro j N P _ hj hN
    obtain ⟨N, rfl⟩ : ∃ n', N = n' + 1 := ⟨N - 1, by omega⟩
    rw [fn_202_16, if_pos (n_ile (by omega) (by omega) (by omega)), if_pos b01_isb]
    exact congrArg (fun z => some (z, D')) (b01_congr ⟨fun z => ⟨z, fun i a b => by omega⟩, fun z => z.1⟩)
  | succ c ih =>
    intro j N P _ hj hN
    obtain ⟨N, rfl⟩ : ∃ n', N = n' + 1 := ⟨N - 1, by omega⟩
    have g0 : fn_180 (Int32.ofNat j) 0 D' = some (D 322 (225 + 3 * j + 0), D') := vw_M 0 hD (by omega) (by omega)
    have g1 : fn_185 (D 322 (225 + 3 * j + 0)) D' = some (Int32.ofNat (ch D kp j), D') := fn_185_n h hD _
    rw [fn_202_16, if_neg (n_nle (by omega) (by omega) (by omega))]
    have z0 : b01 (0 = 1) = 0 := b01_f (by omega)
    have z1 : b01 (0 = 0) = 1 := b01_t rfl
    by_cases hP : P
    · rw [b01_t hP, if_neg (by decide), g0]
      dsimp only
      rw [g1]
      dsimp only
      rw [nI_up]
      by_cases z : ch D kp j = ch D kp q
      · have i := ih (j + 1) N (0 = 1) (by omega) (by omega)
        rw [z0] at i
        rw [if_pos (by rw [z]), i]
        exact congrArg (fun z => some (z, D')) (b01_congr ⟨fun w => absurd w.1 (by omega), fun w => absurd z (w.2 j (by omega) (Nat.le_refl _))⟩)
      · have i := ih (j + 1) N (0 = 0) (by omega) (by omega)
        rw [z1] at i
        rw [if_neg (fun w => z (n_inj (ch_lt h j) (ch_lt h q) w)), i]
        refine congrArg (fun z => some (z, D')) (b01_congr ⟨fun w => ⟨hP, fun i a b => ?_⟩, fun w => ⟨rfl, fun i a b => w.2 i a (by omega)⟩⟩)
        by_cases e : i = j
        · rw [e]; exact z
        · exact w.2 i a (by omega)
    · have i := ih (j + 1) N (0 = 1) (by omega) (by omega)
      rw [z0] at i
      rw [b01_f hP, if_pos rfl, nI_up, i]
      exact congrArg (fun z => some (z, D')) (b01_congr ⟨fun w => absurd w.1 (by omega), fun w => absurd w.1 hP⟩)
theorem fn_202_n (h : vw D m n kp o) (hD : D' 322 = D 322) {q : Nat} (hq : q < kp) : fn_202 (Int32.ofNat q) D' = some (b01 (∀ j, j < q → ch D kp j ≠ ch D kp q), D') := by
  have hk := h.1.2.2.1
  have g0 : fn_180 (Int32.ofNat q) 0 D' = some (D 322 (225 + 3 * q + 0), D') := vw_M 0 hD (by omega) (by omega)
  have g1 : fn_185 (D 322 (225 + 3 * q + 0)) D' = some (Int32.ofNat (ch D kp q), D') := fn_185_n h hD _
  have z1 : b01 (0 = 0) = 1 := b01_t rfl
  have i := lp_202 h hD hq q 0 100000 (0 = 0) (by omega) (by omega)
  rw [z1] at i
  have i' : fn_202_16 100000 (Int32.ofNat q) (Int32.ofNat (ch D kp q)) 1 0 D' = _ := i
  unfold fn_202 am_F
  rw [g0]
  dsimp only
  rw [g1]
  dsimp only
  rw [i']
  exact congrArg (fun z => some (z, D')) (b01_congr ⟨fun w j a => w.2 j a (by omega), fun w => ⟨rfl, fun i a _ => w i a⟩⟩)
theorem dc_le (f : Nat → Nat) : ∀ n, dc f n ≤ n := by
  intro n
  induction n with
  | zero => exact Nat.le_refl _
  | succ n ih =>
    unfold dc
    split <;> omega
theorem lp_203 (h : vw D m n kp o) (hD : D' 322 = D 322) : ∀ (c q N : Nat), q + c = kp → c < N → fn_203_4 N (Int32.ofNat (dc (ch D kp) q)) (Int32.ofNat q) D' = some (Int32.ofNat (dc (ch D kp) kp), D') := by
  have hk := h.1.2.2.1
  intro c
  induction c with
  | zero =>
    intro q N hq hN
    obtain ⟨N, rfl⟩ : ∃ n', N = n' + 1 := ⟨N - 1, by omega⟩
    have : q = kp := by omega
    subst this
    rw [fn_203_4, hD, h.2.2.2.1.1, if_pos (n_ile (by omega) (by omega) (Nat.le_refl _))]
  | succ c ih =>
    intro q N hq hN
    obtain ⟨N, rfl⟩ : ∃ n', N = n' + 1 := ⟨N - 1, by omega⟩
    have i := ih (q + 1) N (by omega) (by omega)
    have e : dc (ch D kp) (q + 1) = dc (ch D kp) q + (if ∀ j, j < q → ch D kp j ≠ ch D kp q then 1 else 0) := rfl
    rw [fn_203_4, hD, h.2.2.2.1.1, if_neg (n_nle (by omega) (by omega) (by omega)), fn_202_n h hD (by omega)]
    dsimp only
    rw [nI_up]
    by_cases z : ∀ j, j < q → ch D kp j ≠ ch D kp q
    · rw [b01_t z, if_neg (by decide), nI_up]
      rw [e, if_pos z] at i
      exact i
    · rw [b01_f z, if_pos rfl, Int32.add_zero]
      rw [e, if_neg z, Nat.add_zero] at i
      exact i
theorem fn_203_n (h : vw D m n kp o) (hD : D' 322 = D 322) : fn_203 D' = some (Int32.ofNat (dc (ch D kp) kp), D') := lp_203 h hD kp 0 100000 (by omega) (by have := h.1.2.2.1; omega)
theorem mx_le {f : Nat → Nat} {M : Nat} (hf : ∀ q, f q ≤ M) : ∀ n, mx f n ≤ M := by
  intro n
  induction n with
  | zero => exact Nat.zero_le _
  | succ n ih =>
    unfold mx
    split
    · exact hf n
    · exact ih
theorem lp_204 (h : vw D m n kp o) (hD : D' 322 = D 322) : ∀ (c q N : Nat), q + c = kp → c < N → fn_204_4 N (Int32.ofNat (mx (fun q => pb 31 (ch D kp q)) q)) (Int32.ofNat q) D' = some (Int32.ofNat (mx (fun q => pb 31 (ch D kp q)) kp), D') := by
  have hk := h.1.2.2.1
  intro c
  induction c with
  | zero =>
    intro q N hq hN
    obtain ⟨N, rfl⟩ : ∃ n', N = n' + 1 := ⟨N - 1, by omega⟩
    have : q = kp := by omega
    subst this
    rw [fn_204_4, hD, h.2.2.2.1.1, if_pos (n_ile (by omega) (by omega) (Nat.le_refl _))]
  | succ c ih =>
    intro q N hq hN
    obtain ⟨N, rfl⟩ : ∃ n', N = n' + 1 := ⟨N - 1, by omega⟩
    have i := ih (q + 1) N (by omega) (by omega)
    have e : mx (fun q => pb 31 (ch D kp q)) (q + 1) = if mx (fun q => pb 31 (ch D kp q)) q < pb 31 (ch D kp q) then pb 31 (ch D kp q) else mx (fun q => pb 31 (ch D kp q)) q := rfl
    have g0 : fn_180 (Int32.ofNat q) 0 D' = some (D 322 (225 + 3 * q + 0), D') := vw_M 0 hD (by omega) (by omega)
    have g1 : fn_185 (D 322 (225 + 3 * q + 0)) D' = some (Int32.ofNat (ch D kp q), D') := fn_185_n h hD _
    have m1 := mx_le (f := fun q => pb 31 (ch D kp q)) (M := 31) (fun q => pb_le 31 _) q
    have m2 := pb_le 31 (ch D kp q)
    rw [fn_204_4, hD, h.2.2.2.1.1, if_neg (n_nle (by omega) (by omega) (by omega)), g0]
    dsimp only
    rw [g1]
    dsimp only
    have lp := fn_204_lp (kk := fun c => if c ≤ Int32.ofNat (mx (fun q => pb 31 (ch D kp q)) q) then fn_204_4 N (Int32.ofNat (mx (fun q => pb 31 (ch D kp q)) q)) (Int32.ofNat q + 1) D' else fn_204_4 N c (Int32.ofNat q + 1) D') am_F 0 (ch D kp q) (ch_lt h q) (by unfold am_F; omega)
    refine lp.trans ?_
    rw [Nat.zero_add, nI_up]
    by_cases z : mx (fun q => pb 31 (ch D kp q)) q < pb 31 (ch D kp q)
    · rw [if_neg (n_nle (by omega) (by omega) z)]
      rw [e, if_pos z] at i
      exact i
    · rw [if_pos (n_ile (by omega) (by omega) (by omega))]
      rw [e, if_neg z] at i
      exact i
theorem fn_204_n (h : vw D m n kp o) (hD : D' 322 = D 322) : fn_204 D' = some (Int32.ofNat (mx (fun q => pb 31 (ch D kp q)) kp), D') := lp_204 h hD kp 0 100000 (by omega) (by have := h.1.2.2.1; omega)
end VK2
