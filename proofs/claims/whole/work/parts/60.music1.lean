/-! the music's counts: pitches -/
def pt (D : am_DD) (q : Nat) : Nat := (D 322 (227 + 3 * q)).toNatClampNeg
/-- how often p stands among the first q notes -/
def cnt (D : am_DD) (p : Nat) : Nat → Nat
  | 0 => 0
  | q + 1 => cnt D p q + (if pt D q = p then 1 else 0)
section VM
variable {D D' : am_DD} {m n kp o : Nat}
theorem cnt_le (p q : Nat) : cnt D p q ≤ q := by
  induction q with
  | zero => exact Nat.le_refl _
  | succ q ih =>
    unfold cnt
    split <;> omega
theorem vw_pt (h : vw D m n kp o) {q : Nat} (hq : q < kp) : D 322 (225 + 3 * q + 2) = Int32.ofNat (pt D q) ∧ pt D q ≤ 30 := by
  obtain ⟨p, hp, ps⟩ := h.2.2.2.2.2.2.2.2.2.2.2 q hq
  unfold pt
  rw [show 225 + 3 * q + 2 = 227 + 3 * q by omega, ps, c_ofNat (by omega)]
  exact ⟨rfl, hp⟩
theorem lp_188 (h : vw D m n kp o) : ∀ (c q N : Nat) (Dc : am_DD), q + c = kp → c < N → (∀ a, a ≠ 42 → Dc a = D a) → (∀ p, p < 31 → Dc 42 p = Int32.ofNat (cnt D p q)) → ∃ D1, fn_188_9 N (Int32.ofNat q) Dc = some (0, D1) ∧ (∀ a, a ≠ 42 → D1 a = D a) ∧ ∀ p, p < 31 → D1 42 p = Int32.ofNat (cnt D p kp) := by
  have hk := h.1.2.2.1
  intro c
  induction c with
  | zero =>
    intro q N Dc hq hN hA hB
    obtain ⟨N, rfl⟩ : ∃ n', N = n' + 1 := ⟨N - 1, by omega⟩
    have : q = kp := by omega
    subst this
    refine ⟨Dc, ?_, hA, hB⟩
    rw [fn_188_9, hA 26 (by omega), h.2.2.2.1.2.1, if_pos (n_ile (by omega) (by omega) (Nat.le_refl _))]
  | succ c ih =>
    intro q N Dc hq hN hA hB
    obtain ⟨N, rfl⟩ : ∃ n', N = n' + 1 := ⟨N - 1, by omega⟩
    have hc : vw Dc m n kp o := vw_congr (fun a ha => hA a (by omega)) h
    obtain ⟨p1, p2⟩ := vw_pt h (show q < kp by omega)
    rw [fn_188_9, hA 26 (by omega), h.2.2.2.1.2.1, if_neg (n_nle (by omega) (by omega) (by omega)), vw_n2 hc (by omega), hA 322 (by omega), p1]
    dsimp only
    rw [rw_raise_nI (show pt D q < 31 by omega) (by decide), nI_up]
    refine ih (q + 1) N _ (by omega) (by omega) (fun a ha => by rw [u_row ha, hA a ha]) (fun p hp => ?_)
    have e : cnt D p (q + 1) = cnt D p q + (if pt D q = p then 1 else 0) := rfl
    rw [e]
    by_cases z : p = pt D q
    · rw [z, u_self, if_pos rfl, hB _ (by omega), nI_up]
    · rw [u_ne (fun w => z w.2), if_neg (fun w => z w.symm), hB p hp, Nat.add_zero]
theorem fn_188_n (h : vw D m n kp o) : ∃ D1, fn_188 D = some (0, D1) ∧ (∀ a, a ≠ 42 → D1 a = D a) ∧ ∀ p, p < 31 → D1 42 p = Int32.ofNat (cnt D p kp) := by
  have hk := h.1.2.2.1
  exact lp_188 h kp 0 100000 (rw_wipe D 42 31) (by omega) (by omega) (fun a ha => by
    funext j
    unfold rw_wipe
    rw [if_neg (fun q => ha q.1)]) (fun p hp => if_pos ⟨rfl, hp⟩)
theorem lp_199 (h : vw D m n kp o) (hD : D' 322 = D 322) {p : Nat} (hp : p < 31) : ∀ (c q N : Nat), q + c = kp → c < N → fn_199_4 N (Int32.ofNat p) (Int32.ofNat (cnt D p q)) (Int32.ofNat q) D' = some (Int32.ofNat (cnt D p kp), D') := by
  have hk := h.1.2.2.1
  intro c
  induction c with
  | zero =>
    intro q N hq hN
    obtain ⟨N, rfl⟩ : ∃ n', N = n' + 1 := ⟨N - 1, by omega⟩
    have : q = kp := by omega
    subst this
    rw [fn_199_4, hD, h.2.2.2.1.1, if_pos (n_ile (by omega) (by omega) (Nat.le_refl _))]
  | succ c ih =>
    intro q N hq hN
    obtain ⟨N, rfl⟩ : ∃ n', N = n' + 1 := ⟨N - 1, by omega⟩
    obtain ⟨p1, p2⟩ := vw_pt h (show q < kp by omega)
    have g2 : fn_180 (Int32.ofNat q) 2 D' = some (D 322 (225 + 3 * q + 2), D') := vw_M 2 hD (by omega) (by omega)
    have e : cnt D p (q + 1) = cnt D p q + (if pt D q = p then 1 else 0) := rfl
    have i := ih (q + 1) N (by omega) (by omega)
    rw [fn_199_4, hD, h.2.2.2.1.1, if_neg (n_nle (by omega) (by omega) (by omega)), g2, p1]
    dsimp only
    rw [nI_up]
    by_cases z : pt D q = p
    · rw [if_neg (not_not_intro (by rw [z])), nI_up]
      rw [e, if_pos z] at i
      exact i
    · rw [if_pos (fun w => z (n_inj (by omega) (by omega) w)), Int32.add_zero]
      rw [e, if_neg z, Nat.add_zero] at i
      exact i
theorem fn_199_n (h : vw D m n kp o) (hD : D' 322 = D 322) {p : Nat} (hp : p < 31) : fn_199 (Int32.ofNat p) D' = some (Int32.ofNat (cnt D p kp), D') := by
  have hk := h.1.2.2.1
  exact lp_199 h hD hp kp 0 100000 (by omega) (by omega)
/-- how many pitches -/
theorem lp_189 (h : vw D m n kp o) {Dc : am_DD} (hB : ∀ p, p < 31 → Dc 42 p = Int32.ofNat (cnt D p kp)) (hD : D' 322 = D 322) : ∀ (c p N N' : Nat) (x : Int32), p + c = 31 → c < N → c < N' → ∃ y, fn_189_8 N x (Int32.ofNat p) Dc = some (y, Dc) ∧ fn_200_4 N' x (Int32.ofNat p) D' = some (y, D') := by
  intro c
  induction c with
  | zero =>
    intro p N N' x hp hN hN'
    obtain ⟨N, rfl⟩ : ∃ n', N = n' + 1 := ⟨N - 1, by omega⟩
    obtain ⟨N', rfl⟩ : ∃ n', N' = n' + 1 := ⟨N' - 1, by omega⟩
    have q : (31 : Int32) ≤ Int32.ofNat p := n_ile (a := 31) (by omega) (by omega) (by omega)
    exact ⟨x, by rw [fn_189_8, if_pos q], by rw [fn_200_4, if_pos q]⟩
  | succ c ih =>
    intro p N N' x hp hN hN'
    obtain ⟨N, rfl⟩ : ∃ n', N = n' + 1 := ⟨N - 1, by omega⟩
    obtain ⟨N', rfl⟩ : ∃ n', N' = n' + 1 := ⟨N' - 1, by omega⟩
    have q : ¬ (31 : Int32) ≤ Int32.ofNat p := n_nle (a := 31) (by omega) (by omega) (by omega)
    rw [fn_189_8, fn_200_4, if_neg q, if_neg q, rw_at_nI (show p < 31 by omega) (by decide), hB p (by omega), fn_199_n h hD (by omega), nI_up]
    dsimp only
    by_cases z : Int32.ofNat (cnt D p kp) ≤ 0
    · rw [if_pos z, if_pos z]
      exact ih (p + 1) N N' _ (by omega) (by omega) (by omega)
    · rw [if_neg z, if_neg z]
      exact ih (p + 1) N N' _ (by omega) (by omega) (by omega)
/-- the most frequent pitch -/
theorem lp_190 (h : vw D m n kp o) {Dc : am_DD} (hB : ∀ p, p < 31 → Dc 42 p = Int32.ofNat (cnt D p kp)) (hD : D' 322 = D 322) (hk0 : 0 < kp) : ∀ (c p b N N' : Nat), p + c = 31 → b < 31 → c < N → c < N' → ∃ y, fn_190_20 N (Int32.ofNat b) (Int32.ofNat p) Dc = some (y, Dc) ∧ fn_201_4 N' (Int32.ofNat b) (Int32.ofNat p) D' = some (y, D') := by
  have hk := h.1.2.2.1
  intro c
  induction c with
  | zero =>
    intro p b N N' hp hb hN hN'
    obtain ⟨N, rfl⟩ : ∃ n', N = n' + 1 := ⟨N - 1, by omega⟩
    obtain ⟨N', rfl⟩ : ∃ n', N' = n' + 1 := ⟨N' - 1, by omega⟩
    have q : (31 : Int32) ≤ Int32.ofNat p := n_ile (a := 31) (by omega) (by omega) (by omega)
    have nk : ¬ Int32.ofNat kp = 0 := fun z => by have := n_inj (b := 0) (by omega) (by omega) z; omega
    exact ⟨Int32.ofNat b, by rw [fn_190_20, if_pos q], by rw [fn_201_4, if_pos q, hD, h.2.2.2.1.1, if_pos nk]⟩
  | succ c ih =>
    intro p b N N' hp hb hN hN'
    obtain ⟨N, rfl⟩ : ∃ n', N = n' + 1 := ⟨N - 1, by omega⟩
    obtain ⟨N', rfl⟩ : ∃ n', N' = n' + 1 := ⟨N' - 1, by omega⟩
    have q : ¬ (31 : Int32) ≤ Int32.ofNat p := n_nle (a := 31) (by omega) (by omega) (by omega)
    rw [fn_190_20, fn_201_4, if_neg q, if_neg q, rw_at_nI (show p < 31 by omega) (by decide), rw_at_nI hb (by decide), hB p (by omega), hB b hb, fn_199_n h hD (show p < 31 by omega)]
    dsimp only
    rw [fn_199_n h hD hb, nI_up]
    dsimp only
    by_cases z : Int32.ofNat (cnt D p kp) ≤ Int32.ofNat (cnt D b kp)
    · rw [if_pos z, if_pos z]
      exact ih (p + 1) b N N' (by omega) hb (by omega) (by omega)
    · rw [if_neg z, if_neg z]
      exact ih (p + 1) p N N' (by omega) (by omega) (by omega) (by omega)
/-- steps up and down -/
theorem lp_196 (h : vw D m n kp o) (hD : D' 322 = D 322) {s t : Int32} (hst : (s = 1 ∧ t = 1) ∨ (s = -1 ∧ t = 0)) : ∀ (c q N N' : Nat) (x : Int32), q + c = kp → 1 ≤ q → c < N → c < N' → ∃ y, fn_196_4 N s x (Int32.ofNat q) D = some (y, D) ∧ fn_205_4 N' t x (Int32.ofNat q) D' = some (y, D') := by
  have hk := h.1.2.2.1
  have e1 := h.2.2.2.1.1
  have e2 := h.2.2.2.1.2.1
  intro c
  induction c with
  | zero =>
    intro q N N' x hq h1 hN hN'
    obtain ⟨N, rfl⟩ : ∃ n', N = n' + 1 := ⟨N - 1, by omega⟩
    obtain ⟨N', rfl⟩ : ∃ n', N' = n' + 1 := ⟨N' - 1, by omega⟩
    have q' : Int32.ofNat kp ≤ Int32.ofNat q := n_ile (by omega) (by omega) (by omega)
    exact ⟨x, by rw [fn_196_4, e2, if_pos q'], by rw [fn_205_4, hD, e1, if_pos q']⟩
  | succ c ih =>
    intro q N N' x hq h1 hN hN'
    obtain ⟨N, rfl⟩ : ∃ n', N = n' + 1 := ⟨N - 1, by omega⟩
    obtain ⟨N', rfl⟩ : ∃ n', N' = n' + 1 := ⟨N' - 1, by omega⟩
    have q' : ¬ Int32.ofNat kp ≤ Int32.ofNat q := n_nle (by omega) (by omega) (by omega)
    obtain ⟨p1, p2⟩ := vw_pt h (show q < kp by omega)
    obtain ⟨r1, r2⟩ := vw_pt h (show q - 1 < kp by omega)
    have eq1 : Int32.ofNat q - 1 = Int32.ofNat (q - 1) := n_sub (b := 1) h1 (by omega)
    have g2 : fn_180 (Int32.ofNat q) 2 D' = some (D 322 (225 + 3 * q + 2), D') := vw_M 2 hD (by omega) (by omega)
    have g3 : fn_180 (Int32.ofNat (q - 1)) 2 D' = some (D 322 (225 + 3 * (q - 1) + 2), D') := vw_M 2 hD (by omega) (by omega)
    rw [fn_196_4, fn_205_4, hD, e1, e2, if_neg q', if_neg q', eq1, vw_n2 h (by omega), g2]
    dsimp only
    rw [vw_n2 h (by omega), g3, p1, r1, nI_up]
    dsimp only
    have dv : (Int32.ofNat (pt D q) - Int32.ofNat (pt D (q - 1))).toInt = (pt D q : Int) - pt D (q - 1) := by
      rw [t_sub (by rw [t_ofNat (by omega), t_ofNat (by omega)]; omega) (by rw [t_ofNat (by omega), t_ofNat (by omega)]; omega), t_ofNat (by omega), t_ofNat (by omega)]
    generalize Int32.ofNat (pt D q) - Int32.ofNat (pt D (q - 1)) = d at dv
    have n01 : ¬ (1 : Int32) = 0 := by decide
    rcases hst with ⟨rfl, rfl⟩ | ⟨rfl, rfl⟩
    · rw [Int32.mul_one, if_neg n01]
      by_cases z : d ≤ 0
      · rw [if_pos z, if_pos z]
        exact ih (q + 1) N N' _ (by omega) (by omega) (by omega) (by omega)
      · rw [if_neg z, if_neg z]
        exact ih (q + 1) N N' _ (by omega) (by omega) (by omega) (by omega)
    · have em : d * (-1) ≤ 0 ↔ 0 ≤ d := by
        have : d * (-1) = 0 - d := by
          rw [Int32.mul_neg, Int32.mul_one, Int32.zero_sub]
        rw [this, i_le, i_le, t_sub (by rw [l_0]; omega) (by rw [l_0]; omega), l_0]
        omega
      rw [if_pos rfl]
      by_cases z : 0 ≤ d
      · rw [if_pos (em.mpr z), if_pos z]
        exact ih (q + 1) N N' _ (by omega) (by omega) (by omega) (by omega)
      · rw [if_neg (mt em.mp z), if_neg z]
        exact ih (q + 1) N N' _ (by omega) (by omega) (by omega) (by omega)
end VM
