/-! chords as sets of bits -/
theorem n_or (a b : Nat) : Int32.ofNat a ||| Int32.ofNat b = Int32.ofNat (a ||| b) := by
  apply Int32.toBitVec_inj.mp
  rw [Int32.toBitVec_or]
  apply BitVec.eq_of_toNat_eq
  show ((BitVec.ofNat 32 a) ||| (BitVec.ofNat 32 b)).toNat = (BitVec.ofNat 32 (a ||| b)).toNat
  rw [BitVec.toNat_or, BitVec.toNat_ofNat, BitVec.toNat_ofNat, BitVec.toNat_ofNat, Nat.or_mod_two_pow]
theorem n_bit : ∀ p, p < 31 → (1 : Int32) <<< (Int32.ofNat p &&& 31) = Int32.ofNat (2 ^ p) := by decide +kernel
/-- the beat of a note, as it is written -/
def be (D : am_DD) (q : Nat) : Int32 := D 322 (225 + 3 * q + 0)
def mk (D : am_DD) (b : Int32) : Nat → Nat
  | 0 => 0
  | q + 1 => if be D q = b then mk D b q ||| 2 ^ pt D q else mk D b q
section VK
variable {D D' : am_DD} {m n kp o : Nat}
theorem mk_lt (h : vw D m n kp o) (b : Int32) : ∀ q, q ≤ kp → mk D b q < 2 ^ 31 := by
  intro q
  induction q with
  | zero => intro _; show 0 < 2 ^ 31; omega
  | succ q ih =>
    intro hq
    have i := ih (by omega)
    have p := (vw_pt h (show q < kp by omega)).2
    unfold mk
    split
    · exact Nat.or_lt_two_pow i (Nat.pow_lt_pow_right (by omega) (by omega))
    · exact i
theorem lp_185 (h : vw D m n kp o) (hD : D' 322 = D 322) (b : Int32) : ∀ (c q N : Nat), q + c = kp → c < N → fn_185_4 N b (Int32.ofNat (mk D b q)) (Int32.ofNat q) D' = some (Int32.ofNat (mk D b kp), D') := by
  have hk := h.1.2.2.1
  intro c
  induction c with
  | zero =>
    intro q N hq hN
    obtain ⟨N, rfl⟩ : ∃ n', N = n' + 1 := ⟨N - 1, by omega⟩
    have : q = kp := by omega
    subst this
    rw [fn_185_4, hD, h.2.2.2.1.1, if_pos (n_ile (by omega) (by omega) (Nat.le_refl _))]
  | succ c ih =>
    intro q N hq hN
    obtain ⟨N, rfl⟩ : ∃ n', N = n' + 1 := ⟨N - 1, by omega⟩
    obtain ⟨p1, p2⟩ := vw_pt h (show q < kp by omega)
    have g0 : fn_180 (Int32.ofNat q) 0 D' = some (D 322 (225 + 3 * q + 0), D') := vw_M 0 hD (by omega) (by omega)
    have g2 : fn_180 (Int32.ofNat q) 2 D' = some (D 322 (225 + 3 * q + 2), D') := vw_M 2 hD (by omega) (by omega)
    have i := ih (q + 1) N (by omega) (by omega)
    have e : mk D b (q + 1) = if be D q = b then mk D b q ||| 2 ^ pt D q else mk D b q := rfl
    rw [fn_185_4, hD, h.2.2.2.1.1, if_neg (n_nle (by omega) (by omega) (by omega)), g0]
    dsimp only
    rw [g2, p1]
    dsimp only
    rw [nI_up]
    by_cases z : be D q = b
    · have z' : D 322 (225 + 3 * q + 0) = b := z
      rw [if_neg (not_not_intro z'), n_bit _ (by omega), n_or]
      rw [e, if_pos z] at i
      exact i
    · have z' : ¬ D 322 (225 + 3 * q + 0) = b := z
      rw [if_pos z', Int32.or_zero]
      rw [e, if_neg z] at i
      exact i
theorem fn_185_n (h : vw D m n kp o) (hD : D' 322 = D 322) (b : Int32) : fn_185 b D' = some (Int32.ofNat (mk D b kp), D') := by
  have hk := h.1.2.2.1
  exact lp_185 h hD b kp 0 100000 (by omega) (by omega)
end VK
/-- beats ascend -/
theorem be_asc {k : Nat} {D : am_DD} {m n kp o : Nat} (h : vw D m n kp o) (hk : k < 512) (hi : st_ok (1000 * k) (D 322) (st_v D 1)) {q q' q2 : Nat} (h1 : q ≤ q') (h2 : q' ≤ q2) (h3 : q2 < kp) (e : be D q = be D q2) : be D q' = be D q := by
  obtain ⟨m', n', st, kp', o', hb, nb, r, e1, e2, gs, b, rs⟩ := hi
  obtain ⟨⟨bt, z1, z2, z3⟩, -, -, -, t1, t2, t3, t4, t5⟩ := rs
  have hkk : kp = kp' := n_inj (by have := h.1.2.2.1; omega) (by omega) (h.2.2.2.1.1.symm.trans t1)
  subst hkk
  have x1 : be D q = Int32.ofNat (nb q) := t3 q (by omega)
  have x2 : be D q2 = Int32.ofNat (nb q2) := t3 q2 h3
  have x3 : be D q' = Int32.ofNat (nb q') := t3 q' (by omega)
  have b1 := z3 q (by omega)
  have b2 := z3 q2 h3
  have a1 := t4 q q' h1 (by omega)
  have a2 := t4 q' q2 h2 h3
  rw [x1, x2] at e
  have := n_inj (by omega) (by omega) e
  rw [x3, x1, show nb q' = nb q by omega]
