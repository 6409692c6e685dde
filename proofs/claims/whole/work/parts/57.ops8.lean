/-! rolling asked: 23, 24 -/
theorem rng_num {a : Int32} {hi : Nat} (h : rng a 0 hi) : ∃ x : Nat, a = Int32.ofNat x ∧ x ≤ hi := by
  obtain ⟨x, h1, h2, -⟩ := rng_nat h
  exact ⟨x, h1, by omega⟩
/-- the end of a call that asks only -/
theorem in_qr {hm : Nat → Int32} {k : Nat} {C : Option (Int32 × Nat × am_DD)} {M : am_DD → Option (Int32 × am_DD)} {D D1 D2 : am_DD} {y : Int32} (hi : in_ok k D) (hC : C = some (y, 0, D1)) (h1 : ∀ a, a ≠ 35 → a ≠ 37 → D1 a = D a) (hM : M (am_upd D1 329 0 y) = some (y, D2)) (h2 : ∀ a, a ≠ 327 → D2 a = am_upd (am_upd D1 329 0 y) 321 7 0 a) : in_wr hm k C M := by
  refine in_q hi hC (fun a j hs => ?_) hM (fun a j hs => ?_) ?_ ?_
  · have q35 : a ≠ 35 := fun q => by subst q; simp [in_scr] at hs
    have q37 : a ≠ 37 := fun q => by subst q; simp [in_scr] at hs
    rw [h1 a q35 q37]
  · have q327 : a ≠ 327 := fun q => by subst q; simp [in_scr] at hs
    have z6 := scr_ne hs
    rw [h2 a q327, u_ne z6.2]
  · rw [h2 321 (by omega), u_self]
  · rw [h2 329 (by omega), u_ne (by omega), u_self]
set_option maxHeartbeats 2000000 in
theorem op_23 {k : Nat} {D : am_DD} (a1 a2 a3 : Int32) (hi : in_ok k D) : in_wr (hmf 2 0 1) k (fn_215 a1 a2 a3 D) (fn_219 a1 a2 a3) := by
  obtain ⟨m, n, kp, o, h⟩ := vw_of hi.1
  have hm := h.1.1
  have e1 := h.2.1.1
  have e2 := h.2.1.2
  by_cases g2 : rng a2 0 (m - 1) ∨ rng a2 20 24
  · by_cases g1 : rng a1 0 1000
    · have g2' : ∃ x : Nat, a2 = Int32.ofNat x ∧ x < 25 ∧ (x < m ∨ 20 ≤ x) := by
        have r24 : rng a2 0 (24 : Nat) := by rcases g2 with z | z <;> exact ⟨by have := z.1; omega, by have := z.2; omega⟩
        obtain ⟨x, rfl, hx⟩ := rng_num r24
        have l := t_ofNat (n := x) (by omega)
        refine ⟨x, rfl, by omega, ?_⟩
        rcases g2 with z | z
        · left; have := z.2; omega
        · right; have := z.1; omega
      obtain ⟨x, rfl, hx, hx2⟩ := g2'
      obtain ⟨K, rfl, hK⟩ := rng_num (hi := 1000) g1
      -- the reference's answer
      have M : ∀ (D1 : am_DD) (y : Int32), (∀ a, a ≠ 35 → a ≠ 37 → D1 a = D a) → y = Int32.ofNat (ar D m K x) → (a3 = 0 ∨ a3 = 1) → ∃ D2, fn_219 (Int32.ofNat K) (Int32.ofNat x) a3 (am_upd D1 329 0 y) = some (y, D2) ∧ ∀ a, a ≠ 327 → D2 a = am_upd (am_upd D1 329 0 y) 321 7 0 a := by
        intro D1 y hD1 hy h3
        have d1 : am_upd D1 329 0 y 322 1 = Int32.ofNat m := by rw [u_ne (by omega), hD1 322 (by omega) (by omega), e1]
        have c3 : rng a3 (0 : Int32).toInt (1 : Int32).toInt := by rcases h3 with rfl | rfl <;> decide
        obtain ⟨D2, r1, r2, r3⟩ := fn_218_n (K := K) (by omega) h (Dr := am_upd (am_upd D1 329 0 y) 321 7 0) (by rw [u_row (by omega), u_row (by omega), hD1 322 (by omega) (by omega)])
        refine ⟨D2, ?_, r2⟩
        unfold fn_219
        simp only [fn_46_b d1 hm, b01_t g2, i10, not_false_eq_true, if_true, fn_217_b, b01_t g1, if_false, fn_26_b, b01_t c3, fn_29_0, r1]
        rw [if_neg (n_bad (by decide) hx), c_ofNat (by omega), r3 x hx, hy]
      by_cases h3 : a3 = 0
      · subst h3
        obtain ⟨D1, i1, i2⟩ := fn_213_n (K := K) (x := x) h (by omega) hx
        obtain ⟨D2, j1, j2⟩ := M D1 _ i2 rfl (Or.inl rfl)
        refine in_qr (y := Int32.ofNat (ar D m K x)) (D1 := D1) (D2 := D2) hi ?_ i2 j1 j2
        unfold fn_215
        simp only [fn_38_b e2 hm, b01_t g2, i10, not_false_eq_true, not_true, if_true, fn_210_b, b01_t g1, if_false, i1]
      · by_cases h3' : a3 = 1
        · subst h3'
          obtain ⟨D1, i1, i2⟩ := fn_214_n (K := K) (x := x) (by omega) hx h
          have ea : bs (t0 D) (t1 D) K m x = ar D m K x := by
            unfold ar
            by_cases hm0 : m = 0
            · rw [if_pos hm0]
              subst hm0
              exact if_neg (by omega)
            · rw [if_neg hm0]
          rw [ea] at i1
          obtain ⟨D2, j1, j2⟩ := M D1 _ (fun a _ h37 => i2 a h37) rfl (Or.inr rfl)
          refine in_qr (y := Int32.ofNat (ar D m K x)) (D1 := D1) (D2 := D2) hi ?_ (fun a _ h37 => i2 a h37) j1 j2
          unfold fn_215
          simp only [fn_38_b e2 hm, b01_t g2, i10, not_false_eq_true, if_true, fn_210_b, b01_t g1, if_false, i1]
        · have c3 : ¬ rng a3 (0 : Int32).toInt (1 : Int32).toInt := fun z => by
            have q0 := mt (i_eq a3 0).mpr h3
            have q1 := mt (i_eq a3 1).mpr h3'
            obtain ⟨z1, z2⟩ := z
            rw [l_0] at z1 q0
            rw [l_1] at z2 q1
            omega
          refine in_no (kk := 1) (y := 0) (b := 0) hi ?_ (by omega) (by decide) ?_
          · unfold fn_215
            simp only [fn_38_b e2 hm, b01_t g2, i10, not_false_eq_true, if_true, fn_210_b, b01_t g1, if_false, if_neg h3, if_neg h3']
          · unfold fn_219
            simp only [fn_46_b e1 hm, b01_t g2, i10, not_false_eq_true, not_true, if_true, fn_217_b, b01_t g1, if_false, fn_26_b, b01_f c3, fn_29_2]
            rfl
    · refine in_no (kk := 1) (y := 0) (b := 0) hi ?_ (by omega) (by decide) ?_
      · unfold fn_215
        simp only [fn_38_b e2 hm, b01_t g2, i10, not_false_eq_true, if_true, fn_210_b, b01_f g1]
      · unfold fn_219
        simp only [fn_46_b e1 hm, b01_t g2, i10, not_false_eq_true, not_true, if_true, fn_217_b, b01_f g1, if_false, fn_29_2]
        rfl
  · refine in_no (kk := 3) (y := 0) (b := 0) hi ?_ (by omega) (by decide) ?_
    · unfold fn_215
      simp only [fn_38_b e2 hm, b01_f g2, not_true, if_false]
    · unfold fn_219
      simp only [fn_46_b e1 hm, b01_f g2, not_true, if_false, fn_29_1]
      rfl
set_option maxHeartbeats 2000000 in
theorem op_24 {k : Nat} {D : am_DD} (a1 a2 : Int32) (hi : in_ok k D) : in_wr (hmf 2 0 1) k (fn_221 a1 a2 D) (fn_223 a1 a2) := by
  obtain ⟨m, n, kp, o, h⟩ := vw_of hi.1
  have hm := h.1.1
  have e1 := h.2.1.1
  have e2 := h.2.1.2
  by_cases g2 : rng a2 0 (m - 1)
  · by_cases g1 : rng a1 0 1000
    · obtain ⟨x, rfl, hx, -⟩ := rng_nat g2
      obtain ⟨K, rfl, hK⟩ := rng_num (hi := 1000) g1
      have hm0 : ¬ m = 0 := by omega
      obtain ⟨D1, i1, i2⟩ := fn_214_n (K := K) (x := x) (by omega) (by omega) h
      have sdx := (vw_sd h (show x < 12 by omega)).1
      have sx := vw_side h (show x < 12 by omega)
      have d1 : ∀ y, am_upd D1 329 0 y 322 1 = Int32.ofNat m := fun y => by rw [u_ne (by omega), i2 322 (by omega), e1]
      have cC : fn_221 (Int32.ofNat K) (Int32.ofNat x) D = some ((D 322 (11 + 7 * x) + Int32.ofNat (bs (t0 D) (t1 D) K m x)) - (D 322 (11 + 7 * x) + Int32.ofNat (bs (t0 D) (t1 D) K m x)) / 2 * 2, 0, D1) := by
        unfold fn_221 fn_220
        simp only [fn_36_b e2 hm, b01_t g2, i10, not_false_eq_true, if_true, fn_210_b, b01_t g1, i1]
        rw [sx]
      generalize hy : (D 322 (11 + 7 * x) + Int32.ofNat (bs (t0 D) (t1 D) K m x)) - (D 322 (11 + 7 * x) + Int32.ofNat (bs (t0 D) (t1 D) K m x)) / 2 * 2 = y at cC
      have q322 : am_upd (am_upd D1 329 0 y) 321 7 0 322 = D 322 := by rw [u_row (by omega), u_row (by omega), i2 322 (by omega)]
      obtain ⟨D2, r1, r2, r3⟩ := fn_218_n (K := K) (by omega) h (Dr := am_upd (am_upd D1 329 0 y) 321 7 0) q322
      have s48 : fn_48 (Int32.ofNat x) 0 D2 = some (D 322 (11 + 7 * x), D2) := vw_sideM (by rw [r2 322 (by omega), q322]) (by omega)
      refine in_qr (D1 := D1) (D2 := D2) hi cC (fun a _ h37 => i2 a h37) ?_ r2
      unfold fn_223
      simp only [fn_44_b (d1 y) hm, b01_t g2, i10, not_false_eq_true, if_true, fn_217_b, b01_t g1, fn_29_0, r1, s48]
      have ea : ar D m K x = bs (t0 D) (t1 D) K m x := if_neg hm0
      rw [if_neg (n_bad (by decide) (by omega)), c_ofNat (by omega), r3 x (by omega), ea, hy]
    · refine in_no (kk := 1) (y := 0) (b := 0) hi ?_ (by omega) (by decide) ?_
      · unfold fn_221
        simp only [fn_36_b e2 hm, b01_t g2, i10, not_false_eq_true, not_true, if_true, if_false, fn_210_b, b01_f g1]
      · unfold fn_223
        simp only [fn_44_b e1 hm, b01_t g2, i10, not_false_eq_true, not_true, if_true, fn_217_b, b01_f g1, if_false, fn_29_2]
        rfl
  · refine in_no (kk := 3) (y := 0) (b := 0) hi ?_ (by omega) (by decide) ?_
    · unfold fn_221
      simp only [fn_36_b e2 hm, b01_f g2, not_true, if_false]
    · unfold fn_223
      simp only [fn_44_b e1 hm, b01_f g2, not_true, if_false, fn_29_1]
      rfl
