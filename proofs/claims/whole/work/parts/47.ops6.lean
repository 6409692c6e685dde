/-! gates, balls, bins, notes, chords asked -/
theorem q_row {D : am_DD} {y : Int32} : am_upd (am_upd D 329 0 y) 321 7 0 322 = D 322 := by rw [u_row (by omega), u_row (by omega)]
theorem fn_154_n {D : am_DD} {m n kp o : Nat} (h : vw D m n kp o) {g e : Nat} (hg : g < 12) (he : e < 2) : fn_154 (Int32.ofNat g) (Int32.ofNat e) D = some (D 322 (11 + 7 * g + (4 + e)), D) := by
  have q := h.2.2.2.2.1 g (4 + e) hg (by omega)
  have j4 := gj_4 (g := g) he
  rw [j4.1, j4.2] at q
  unfold fn_154
  rw [gx2, rw_at_nI (by omega) (by decide), q]
set_option maxHeartbeats 2000000 in
theorem op_15 {k : Nat} {D : am_DD} (a1 a2 : Int32) (hi : in_ok k D) : in_wr (hmf 2 0 1) k (fn_156 a1 a2 D) (fn_160 a1 a2) := by
  obtain ⟨m, n, kp, o, h⟩ := vw_of hi.1
  have hm := h.1.1
  have e1 := h.2.1.1
  have e2 := h.2.1.2
  by_cases h1 : rng a1 0 (m - 1)
  · by_cases h2 : rng a2 (0 : Int32).toInt (7 : Int32).toInt
    · obtain ⟨g, rfl, hg, hg31⟩ := rng_nat h1
      obtain ⟨w, rfl, hw, -⟩ := rng_nat (a := a2) (hi := 7) h2
      have q := h.2.2.2.2.1 g
      have M : ∀ y, fn_44 (Int32.ofNat g) (am_upd D 329 0 y) = some (b01 (rng (Int32.ofNat g) 0 (m - 1)), am_upd D 329 0 y) := fun y => fn_44_b (by rw [u_row (by omega)]; exact e1) hm
      by_cases h67 : w < 6
      · have n6 : ¬ Int32.ofNat w = 6 := fun z => by have := n_inj (b := 6) (by omega) (by omega) z; omega
        have n7 : ¬ Int32.ofNat w = 7 := fun z => by have := n_inj (b := 7) (by omega) (by omega) z; omega
        refine in_qs (y := D 322 (11 + 7 * g + w)) hi ?_ ?_
        · unfold fn_156
          simp only [fn_36_b e2 hm, b01_t h1, i10, not_false_eq_true, if_true]
          obtain rfl | rfl | rfl | rfl | rfl | rfl : w = 0 ∨ w = 1 ∨ w = 2 ∨ w = 3 ∨ w = 4 ∨ w = 5 := by omega
          · rw [if_pos (by decide), vw_side h (by omega), Nat.add_zero]
          · rw [if_neg (by decide), if_pos (by decide), rw_at_nI (by omega) (by decide), q 1 (by omega) (by omega)]
            rfl
          · have f : fn_73 (Int32.ofNat g) (Int32.ofNat 2 - 2) D = some (D 322 (13 + 7 * g + 0), D) := vw_tgt h (e := 0) (by omega) (by omega)
            rw [if_neg (by decide), if_neg (by decide), if_pos (by decide), f]
            dsimp only
            rw [show 13 + 7 * g + 0 = 11 + 7 * g + 2 by omega]
          · have f : fn_73 (Int32.ofNat g) (Int32.ofNat 3 - 2) D = some (D 322 (13 + 7 * g + 1), D) := vw_tgt h (e := 1) (by omega) (by omega)
            rw [if_neg (by decide), if_neg (by decide), if_neg (by decide), if_pos (by decide), f]
            dsimp only
            rw [show 13 + 7 * g + 1 = 11 + 7 * g + 3 by omega]
          · have f : fn_154 (Int32.ofNat g) (Int32.ofNat 4 - 4) D = some (D 322 (11 + 7 * g + (4 + 0)), D) := fn_154_n h (e := 0) (by omega) (by omega)
            rw [if_neg (by decide), if_neg (by decide), if_neg (by decide), if_neg (by decide), if_pos (by decide), f]
          · have f : fn_154 (Int32.ofNat g) (Int32.ofNat 5 - 4) D = some (D 322 (11 + 7 * g + (4 + 1)), D) := fn_154_n h (e := 1) (by omega) (by omega)
            rw [if_neg (by decide), if_neg (by decide), if_neg (by decide), if_neg (by decide), if_neg (by decide), if_pos (by decide), f]
        · unfold fn_160
          simp only [M, b01_t h1, i10, not_false_eq_true, if_true, fn_26_b, b01_t h2, fn_29_0, if_pos n6, if_pos n7]
          rw [fn_48_n (by omega), q_row]
      · obtain rfl | rfl : w = 6 ∨ w = 7 := by omega
        · have D22 : ∃ z, fn_155 (Int32.ofNat g) D = some (z, D) ∧ ∀ D' : am_DD, D' 322 = D 322 → fn_159 (Int32.ofNat g) D' = some (z, D') := by
            obtain ⟨z, z1, -⟩ := lp_155 (b := Int32.ofNat g) h (D' := D) rfl n 0 100000 100000 0 (by omega) (by have := h.1.2.1; omega) (by have := h.1.2.1; omega)
            refine ⟨z, z1, fun D' hD => ?_⟩
            obtain ⟨z', z2, z3⟩ := lp_155 (b := Int32.ofNat g) h hD n 0 100000 100000 0 (by omega) (by have := h.1.2.1; omega) (by have := h.1.2.1; omega)
            have e := (Prod.mk.inj (Option.some.inj (z1.symm.trans z2))).1
            rw [e]
            exact z3
          obtain ⟨z, z1, z2⟩ := D22
          refine in_qs (y := z) hi ?_ ?_
          · unfold fn_156
            simp only [fn_36_b e2 hm, b01_t h1, i10, not_false_eq_true, if_true]
            rw [if_neg (by decide), if_neg (by decide), if_neg (by decide), if_neg (by decide), if_neg (by decide), if_neg (by decide), if_pos (by decide), z1]
          · have n6 : Int32.ofNat 6 = 6 := rfl
            unfold fn_160
            simp only [M, b01_t h1, i10, not_false_eq_true, if_true, fn_26_b, b01_t h2, fn_29_0]
            rw [if_neg (not_not_intro n6), z2 _ q_row]
        · refine in_qs (y := D 322 (11 + 7 * g + 6)) hi ?_ ?_
          · unfold fn_156
            simp only [fn_36_b e2 hm, b01_t h1, i10, not_false_eq_true, if_true]
            rw [if_neg (by decide), if_neg (by decide), if_neg (by decide), if_neg (by decide), if_neg (by decide), if_neg (by decide), if_neg (by decide), if_pos (by decide), rw_at_nI (by omega) (by decide), q 6 (by omega) (by omega)]
            rfl
          · have n6 : ¬ Int32.ofNat 7 = 6 := by decide
            have n7 : Int32.ofNat 7 = 7 := rfl
            have f : fn_48 (Int32.ofNat g) 6 (am_upd (am_upd D 329 0 (D 322 (11 + 7 * g + 6))) 321 7 0) = _ := fn_48_n (g := g) (w := 6) (by omega)
            unfold fn_160
            simp only [M, b01_t h1, i10, not_false_eq_true, if_true, fn_26_b, b01_t h2, fn_29_0]
            rw [if_pos n6, if_neg (not_not_intro n7), f, q_row]
    · have nn : ∀ x : Nat, x ≤ 7 → ¬ a2 = Int32.ofNat x := fun x hx z => h2 (by
        rw [z, rng, t_ofNat (by omega), l_7, l_0]
        omega)
      refine in_no (kk := 1) (y := 0) (b := 0) hi ?_ (by omega) (by decide) ?_
      · unfold fn_156
        simp only [fn_36_b e2 hm, b01_t h1, i10, not_false_eq_true, if_true]
        rw [if_neg (show ¬ a2 = 0 from nn 0 (by omega)), if_neg (show ¬ a2 = 1 from nn 1 (by omega)), if_neg (show ¬ a2 = 2 from nn 2 (by omega)), if_neg (show ¬ a2 = 3 from nn 3 (by omega)), if_neg (show ¬ a2 = 4 from nn 4 (by omega)), if_neg (show ¬ a2 = 5 from nn 5 (by omega)), if_neg (show ¬ a2 = 6 from nn 6 (by omega)), if_neg (show ¬ a2 = 7 from nn 7 (by omega))]
      · unfold fn_160
        simp only [fn_44_b e1 hm, b01_t h1, i10, not_false_eq_true, not_true, if_true, if_false, fn_26_b, b01_f h2, fn_29_2]
        rfl
  · refine in_no (kk := 3) (y := 0) (b := 0) hi ?_ (by omega) (by decide) ?_
    · unfold fn_156
      simp only [fn_36_b e2 hm, b01_f h1, not_true, if_false]
    · unfold fn_160
      simp only [fn_44_b e1 hm, b01_f h1, fn_29_1, not_true, if_false]
      rfl
set_option maxHeartbeats 2000000 in
theorem op_17 {k : Nat} {D : am_DD} (a1 a2 : Int32) (hi : in_ok k D) : in_wr (hmf 2 0 1) k (fn_168 a1 a2 D) (fn_171 a1 a2) := by
  obtain ⟨m, n, kp, o, h⟩ := vw_of hi.1
  have hm := h.1.1
  by_cases h1 : rng a1 0 4
  · by_cases h2 : rng a2 (0 : Int32).toInt (2 : Int32).toInt
    · obtain ⟨b, rfl, hb, -⟩ := rng_nat h1
      obtain ⟨w, rfl, hw, -⟩ := rng_nat (a := a2) (hi := 2) h2
      have q0 : D 322 (95 + b) = D 5 b := ok_b hi.1 b 0 (by omega) (by omega)
      have q1 : D 322 (95 + 5 * 1 + b) = D 7 b := ok_b hi.1 b 1 (by omega) (by omega)
      have b100 : (100 : Int32) + Int32.ofNat b = Int32.ofNat (95 + 5 * 1 + b) := n_add 100 b
      obtain rfl | rfl | rfl : w = 0 ∨ w = 1 ∨ w = 2 := by omega
      · refine in_qs (y := D 5 b) hi ?_ ?_
        · unfold fn_168
          simp only [fn_91_b, b01_t h1, i10, not_false_eq_true, if_true]
          rw [if_pos (by decide), rw_at_nI (by omega) (by decide)]
        · unfold fn_171
          have n0 : Int32.ofNat 0 = 0 := rfl
          simp only [fn_45_b, b01_t h1, i10, not_false_eq_true, if_true, fn_26_b, b01_t h2, fn_29_0]
          rw [if_neg (not_not_intro n0), bx, if_neg (n_bad (by decide) (by omega)), c_ofNat (by omega), q_row, q0]
      · refine in_qs (y := D 7 b) hi ?_ ?_
        · unfold fn_168
          simp only [fn_91_b, b01_t h1, i10, not_false_eq_true, if_true]
          rw [if_neg (by decide), if_pos (by decide), rw_at_nI (by omega) (by decide)]
        · unfold fn_171
          have n0 : ¬ Int32.ofNat 1 = 0 := by decide
          have n1 : Int32.ofNat 1 = 1 := rfl
          simp only [fn_45_b, b01_t h1, i10, not_false_eq_true, if_true, fn_26_b, b01_t h2, fn_29_0]
          rw [if_pos n0, if_neg (not_not_intro n1), b100, if_neg (n_bad (by decide) (by omega)), c_ofNat (by omega), q_row, q1]
      · obtain ⟨z, z1, -⟩ := lp_167 (b := Int32.ofNat b) h (D' := D) rfl m 0 100000 100000 0 (by omega) (by omega) (by omega)
        refine in_qs (y := z) hi ?_ ?_
        · unfold fn_168 fn_167 am_F
          simp only [fn_91_b, b01_t h1, i10, not_false_eq_true, if_true]
          have z1' : fn_167_4 100000 (Int32.ofNat b) 0 0 D = some (z, D) := z1
          rw [if_neg (by decide), if_neg (by decide), if_pos (by decide), z1']
        · obtain ⟨z', z2, z3⟩ := lp_167 (b := Int32.ofNat b) h (D' := am_upd (am_upd D 329 0 z) 321 7 0) q_row m 0 100000 100000 0 (by omega) (by omega) (by omega)
          have e := (Prod.mk.inj (Option.some.inj (z1.symm.trans z2))).1
          unfold fn_171 fn_170 am_F
          have n0 : ¬ Int32.ofNat 2 = 0 := by decide
          have n1 : ¬ Int32.ofNat 2 = 1 := by decide
          simp only [fn_45_b, b01_t h1, i10, not_false_eq_true, if_true, fn_26_b, b01_t h2, fn_29_0]
          have z3' : fn_170_4 100000 (20 + Int32.ofNat b) 0 0 (am_upd (am_upd D 329 0 z) 321 7 0) = some (z, am_upd (am_upd D 329 0 z) 321 7 0) := by rw [e] at z3 ⊢; exact z3
          rw [if_pos n0, if_pos n1, z3']
    · have nn : ∀ x : Nat, x ≤ 2 → ¬ a2 = Int32.ofNat x := fun x hx z => h2 (by
        rw [z, rng, t_ofNat (by omega), l_2, l_0]
        omega)
      refine in_no (kk := 1) (y := 0) (b := 0) hi ?_ (by omega) (by decide) ?_
      · unfold fn_168
        simp only [fn_91_b, b01_t h1, i10, not_false_eq_true, if_true]
        rw [if_neg (show ¬ a2 = 0 from nn 0 (by omega)), if_neg (show ¬ a2 = 1 from nn 1 (by omega)), if_neg (show ¬ a2 = 2 from nn 2 (by omega))]
      · unfold fn_171
        simp only [fn_45_b, b01_t h1, i10, not_false_eq_true, not_true, if_true, if_false, fn_26_b, b01_f h2, fn_29_2]
        rfl
  · refine in_no (kk := 3) (y := 0) (b := 0) hi ?_ (by omega) (by decide) ?_
    · unfold fn_168
      simp only [fn_91_b, b01_f h1, not_true, if_false]
    · unfold fn_171
      simp only [fn_45_b, b01_f h1, fn_29_1, not_true, if_false]
      rfl
/-- a number from 0 up, or not -/
theorem i_neg (a : Int32) : (a < 0 ∧ a.toInt < 0) ∨ (¬ a < 0 ∧ 0 ≤ a ∧ ∃ x : Nat, a = Int32.ofNat x ∧ x < 2 ^ 31) := by
  have l := i_lt a 0
  have l2 := i_le 0 a
  rw [l_0] at l l2
  by_cases z : a < 0
  · exact Or.inl ⟨z, l.mp z⟩
  · have z' := mt l.mpr z
    obtain ⟨x, h1, -, h3⟩ := rng_nat (a := a) (hi := 2147483647) ⟨by omega, i_b2 a⟩
    exact Or.inr ⟨z, l2.mpr (by omega), x, h1, h3⟩
set_option maxHeartbeats 2000000 in
theorem op_16 {k : Nat} {D : am_DD} (a1 a2 : Int32) (hi : in_ok k D) : in_wr (hmf 1 0 0) k (fn_163 a1 a2 D) (fn_166 a1 a2) := by
  obtain ⟨m, n, kp, o, h⟩ := vw_of hi.1
  have hm := h.1.1
  have hn := h.1.2.1
  have e1 := h.2.2.1.1
  have e2 := h.2.2.1.2
  rcases i_neg a1 with ⟨n1, -⟩ | ⟨n1, -, r, rfl, hr31⟩
  · refine in_no (kk := 1) (y := 0) (b := 0) hi ?_ (by omega) (by decide) ?_
    · unfold fn_163
      rw [if_pos n1]
    · unfold fn_166
      simp only [if_pos n1, fn_29_1, not_true, if_false]
      rfl
  · by_cases h2 : rng a2 (0 : Int32).toInt (4 : Int32).toInt
    · obtain ⟨w, rfl, hw, -⟩ := rng_nat (a := a2) (hi := 4) h2
      have n2 : ¬ Int32.ofNat w < 0 := nI_pos (n := w) (by omega)
      have n4 : Int32.ofNat w ≤ 4 := n_ile (b := 4) (by omega) (by omega) (by omega)
      by_cases hrn : r < n
      · have c1 : Int32.ofNat r < Int32.ofNat n := (n_lt (by omega) (by omega)).mpr hrn
        have M : ∀ y : Int32, Int32.ofNat r < am_upd (am_upd D 329 0 y) 321 7 0 322 3 := fun y => by rw [q_row, e1]; exact c1
        by_cases h3 : w < 3
        · have n3 : ¬ (3 : Int32) ≤ Int32.ofNat w := n_nle (a := 3) (by omega) (by omega) (by omega)
          refine in_qs (y := D 322 (105 + 3 * r + w)) hi ?_ ?_
          · unfold fn_163
            rw [if_neg n1, if_neg n2, if_pos n4, e2, if_pos c1]
            have q := h.2.2.2.2.2.1 r
            obtain rfl | rfl | rfl : w = 0 ∨ w = 1 ∨ w = 2 := by omega
            · rw [if_pos (by decide), rw_at_nI (by omega) (by decide), q 0 hrn (by omega)]
            · rw [if_neg (by decide), if_pos (by decide), rw_at_nI (by omega) (by decide), q 1 hrn (by omega)]
            · rw [if_neg (by decide), if_neg (by decide), if_pos (by decide), rw_at_nI (by omega) (by decide), q 2 hrn (by omega)]
          · unfold fn_166
            simp only [if_neg n1, fn_26_b, b01_t h2, i10, not_false_eq_true, if_true, if_false, fn_29_0, if_pos (M _), if_neg n3]
            rw [fn_158_n (by omega), q_row]
        · have n3 : (3 : Int32) ≤ Int32.ofNat w := n_ile (a := 3) (by omega) (by omega) (by omega)
          obtain ⟨g, hg, gs⟩ := h.2.2.2.2.2.2.2.2.2.1 r hrn
          have pl := vw_place h hrn
          rw [gs] at pl
          obtain ⟨z, w', i1, i2, -, -⟩ := lp_161 h (D' := D) rfl 12 0 g 100000 100000 (by omega) (by omega) (by omega) (by omega)
          have M2 : ∀ D' : am_DD, D' 322 = D 322 → fn_165 (Int32.ofNat g) 0 D' = some (z, D') ∧ fn_165 (Int32.ofNat g) 1 D' = some (w', D') := fun D' hD => by
            obtain ⟨z', w'', j1, j2, j3, j4⟩ := lp_161 h hD 12 0 g 100000 100000 (by omega) (by omega) (by omega) (by omega)
            have x1 := (Prod.mk.inj (Option.some.inj (i1.symm.trans j1))).1
            have x2 := (Prod.mk.inj (Option.some.inj (i2.symm.trans j2))).1
            rw [x1, x2]
            exact ⟨j3, j4⟩
          have g0 : ∀ D' : am_DD, D' 322 = D 322 → fn_158 (Int32.ofNat r) 0 D' = some (Int32.ofNat g, D') := fun D' hD => by
            have f : fn_158 (Int32.ofNat r) 0 D' = _ := fn_158_n (r := r) (w := 0) (by omega)
            rw [f, hD, Nat.add_zero, gs]
          obtain rfl | rfl : w = 3 ∨ w = 4 := by omega
          · refine in_qs (y := z) hi ?_ ?_
            · unfold fn_163 fn_161 am_F
              rw [if_neg n1, if_neg n2, if_pos n4, e2, if_pos c1, if_neg (by decide), if_neg (by decide), if_neg (by decide), if_pos (by decide), pl]
              have i1' : fn_161_4 100000 (Int32.ofNat g) 0 D = some (z, D) := i1
              rw [i1']
            · unfold fn_166
              have n4' : ¬ Int32.ofNat 3 = 4 := by decide
              simp only [if_neg n1, fn_26_b, b01_t h2, i10, not_false_eq_true, if_true, if_false, fn_29_0, if_pos (M _), if_pos n3, g0 _ q_row, if_pos n4', (M2 _ q_row).1]
          · refine in_qs (y := w') hi ?_ ?_
            · unfold fn_163 fn_162 am_F
              rw [if_neg n1, if_neg n2, if_pos n4, e2, if_pos c1, if_neg (by decide), if_neg (by decide), if_neg (by decide), if_neg (by decide), pl]
              have i1' : fn_162_4 100000 (Int32.ofNat g) 0 D = some (w', D) := i2
              rw [i1']
            · unfold fn_166
              have n4' : Int32.ofNat 4 = 4 := rfl
              simp only [if_neg n1, fn_26_b, b01_t h2, i10, not_false_eq_true, if_true, if_false, fn_29_0, if_pos (M _), if_pos n3, g0 _ q_row]
              rw [if_neg (not_not_intro n4'), (M2 _ q_row).2]
      · have c1 : ¬ Int32.ofNat r < Int32.ofNat n := fun z => hrn ((n_lt (by omega) (by omega)).mp z)
        have M : ∀ y : Int32, ¬ Int32.ofNat r < am_upd (am_upd D 329 0 y) 321 7 0 322 3 := fun y => by rw [q_row, e1]; exact c1
        refine in_qs (y := -1) hi ?_ ?_
        · unfold fn_163
          rw [if_neg n1, if_neg n2, if_pos n4, e2, if_neg c1]
        · unfold fn_166
          simp only [if_neg n1, fn_26_b, b01_t h2, i10, not_false_eq_true, if_true, if_false, fn_29_0, if_neg (M _)]
    · refine in_no (kk := 1) (y := 0) (b := 0) hi ?_ (by omega) (by decide) ?_
      · unfold fn_163
        rw [if_neg n1]
        rcases i_neg a2 with ⟨n2, -⟩ | ⟨n2, l2, w, rfl, hw31⟩
        · rw [if_pos n2]
        · have n4 : ¬ Int32.ofNat w ≤ 4 := fun z => h2 ⟨(i_le _ _).mp l2, (i_le _ _).mp z⟩
          rw [if_neg n2, if_neg n4]
      · unfold fn_166
        simp only [if_neg n1, fn_26_b, b01_f h2, fn_29_1, not_true, if_true, if_false]
        rfl
set_option maxHeartbeats 2000000 in
theorem op_19 {k : Nat} {D : am_DD} (a1 a2 : Int32) (hi : in_ok k D) : in_wr (hmf 1 0 0) k (fn_178 a1 a2 D) (fn_181 a1 a2) := by
  obtain ⟨m, n, kp, o, h⟩ := vw_of hi.1
  have hk := h.1.2.2.1
  have e1 := h.2.2.2.1.1
  have e2 := h.2.2.2.1.2.1
  rcases i_neg a1 with ⟨n1, -⟩ | ⟨n1, -, r, rfl, hr31⟩
  · refine in_no (kk := 1) (y := 0) (b := 0) hi ?_ (by omega) (by decide) ?_
    · unfold fn_178
      rw [if_pos n1]
    · unfold fn_181
      simp only [if_pos n1, fn_29_1, not_true, if_false]
      rfl
  · by_cases h2 : rng a2 (0 : Int32).toInt (2 : Int32).toInt
    · obtain ⟨w, rfl, hw, -⟩ := rng_nat (a := a2) (hi := 2) h2
      have n2 : ¬ Int32.ofNat w < 0 := nI_pos (n := w) (by omega)
      have n4 : Int32.ofNat w ≤ 2 := n_ile (b := 2) (by omega) (by omega) (by omega)
      by_cases hrn : r < kp
      · have c1 : Int32.ofNat r < Int32.ofNat kp := (n_lt (by omega) (by omega)).mpr hrn
        have M : ∀ y : Int32, ¬ am_upd (am_upd D 329 0 y) 321 7 0 322 10 ≤ Int32.ofNat r := fun y => by rw [q_row, e1]; exact n_nle (by omega) (by omega) hrn
        have ei : (Int32.ofNat kp - 1) - Int32.ofNat r = Int32.ofNat (kp - 1 - r) := by
          have : Int32.ofNat kp - 1 = Int32.ofNat (kp - 1) := n_sub (b := 1) (by omega) (by omega)
          rw [this, n_sub (by omega) (by omega)]
        refine in_qs (y := D 322 (225 + 3 * (kp - 1 - r) + w)) hi ?_ ?_
        · unfold fn_178
          rw [if_neg n1, if_neg n2, if_pos n4, e2, if_pos c1, ei]
          obtain rfl | rfl | rfl : w = 0 ∨ w = 1 ∨ w = 2 := by omega
          · rw [if_pos (by decide), vw_n0 h (by omega)]
          · rw [if_neg (by decide), if_pos (by decide), vw_n1 h (by omega)]
          · rw [if_neg (by decide), if_neg (by decide), vw_n2 h (by omega)]
        · unfold fn_181
          simp only [if_neg n1, fn_26_b, b01_t h2, i10, not_false_eq_true, if_true, if_false, fn_29_0, if_neg (M _)]
          rw [q_row, e1, ei, vw_M w q_row (by omega) (by omega)]
      · have c1 : ¬ Int32.ofNat r < Int32.ofNat kp := fun z => hrn ((n_lt (by omega) (by omega)).mp z)
        have M : ∀ y : Int32, am_upd (am_upd D 329 0 y) 321 7 0 322 10 ≤ Int32.ofNat r := fun y => by rw [q_row, e1]; exact n_ile (by omega) (by omega) (by omega)
        refine in_qs (y := -1) hi ?_ ?_
        · unfold fn_178
          rw [if_neg n1, if_neg n2, if_pos n4, e2, if_neg c1]
        · unfold fn_181
          simp only [if_neg n1, fn_26_b, b01_t h2, i10, not_false_eq_true, if_true, if_false, fn_29_0, if_pos (M _)]
    · refine in_no (kk := 1) (y := 0) (b := 0) hi ?_ (by omega) (by decide) ?_
      · unfold fn_178
        rw [if_neg n1]
        rcases i_neg a2 with ⟨n2, -⟩ | ⟨n2, l2, w, rfl, hw31⟩
        · rw [if_pos n2]
        · have n4 : ¬ Int32.ofNat w ≤ 2 := fun z => h2 ⟨(i_le _ _).mp l2, (i_le _ _).mp z⟩
          rw [if_neg n2, if_neg n4]
      · unfold fn_181
        simp only [if_neg n1, fn_26_b, b01_f h2, fn_29_1, not_true, if_true, if_false]
        rfl
/-- the chord of a beat: both -/
theorem chord {D : am_DD} {m n kp o : Nat} (h : vw D m n kp o) (b : Int32) : ∃ z, fn_182 b D = some (z, D) ∧ ∀ D' : am_DD, D' 322 = D 322 → fn_185 b D' = some (z, D') := by
  have hk := h.1.2.2.1
  obtain ⟨z, z1, -⟩ := lp_182 (b := b) h (D' := D) rfl kp 0 100000 100000 0 (by omega) (by omega) (by omega)
  refine ⟨z, z1, fun D' hD => ?_⟩
  obtain ⟨z', z2, z3⟩ := lp_182 (b := b) h hD kp 0 100000 100000 0 (by omega) (by omega) (by omega)
  have e := (Prod.mk.inj (Option.some.inj (z1.symm.trans z2))).1
  rw [e]
  exact z3
theorem op_20 {k : Nat} {D : am_DD} (a : Int32) (hi : in_ok k D) : in_wr (hmf 1 0 0) k (fn_183 a D) (fn_186 a) := by
  obtain ⟨m, n, kp, o, h⟩ := vw_of hi.1
  by_cases h1 : 0 ≤ a
  · obtain ⟨z, z1, z2⟩ := chord h a
    refine in_qs (y := z) hi ?_ ?_
    · unfold fn_183
      rw [if_pos h1, z1]
    · unfold fn_186
      simp only [if_pos h1, fn_29_0, i10, if_false, z2 _ q_row]
  · refine in_no (kk := 1) (y := 0) (b := 0) hi ?_ (by omega) (by decide) ?_
    · unfold fn_183
      rw [if_neg h1]
    · unfold fn_186
      simp only [if_neg h1, fn_29_1, if_true]
      rfl
