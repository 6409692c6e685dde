/-! a setting is set -/
theorem ok_rest {B : Nat} {D : am_DD} (h : st_ok B (D 322) (st_v D 1)) : ∃ w, w ≤ 200 ∧ D 322 4 = Int32.ofNat w ∧ D 1 2 = Int32.ofNat w := by
  obtain ⟨m, n, st, kp, o, hb, nb, r, e1, e2, gs, b, rs⟩ := h
  obtain ⟨-, ⟨w, w1, w2⟩, -⟩ := rs
  have h1 : D 322 4 = D 1 2 := r.1 4 (by omega)
  exact ⟨w, w1, w2, h1.symm.trans w2⟩
theorem sx {i x lo hi : Nat} {k : Nat} {D : am_DD} (hi0 : in_ok k D) (h2 : i < 2) (hx : (i = 0 ∧ lo = 1 ∧ hi = 9) ∨ (i = 1 ∧ lo = 1 ∧ hi = 40)) (h3 : lo ≤ x) (h4 : x ≤ hi) :
    ∃ Dh y D1 D4 D5, fn_22 D = some (0, Dh) ∧ some (rw_at (Dh 3) 2 (Int32.ofNat i), rw_put Dh 3 2 (Int32.ofNat i) (Int32.ofNat x)) = some (y, D1) ∧ fn_31 (am_upd (am_upd D1 329 0 y) 321 7 0) = some (0, D4) ∧
      (if ((5 : Int32) + Int32.ofNat i) < 0 ∨ 405 ≤ (5 + Int32.ofNat i).toNatClampNeg then none else (if ((5 : Int32) + Int32.ofNat i) < 0 ∨ 405 ≤ (5 + Int32.ofNat i).toNatClampNeg then none else some ((D4 322 (5 + Int32.ofNat i).toNatClampNeg), (am_upd D4 322 (5 + Int32.ofNat i).toNatClampNeg (Int32.ofNat x))))) = some (y, D5) ∧ D5 321 7 = 0 ∧ D5 329 0 = y ∧ in_ok (k + 1) D5 ∧ ∀ a j, 320 < a → in_scr a j = false → D1 a j = D a j := by
  refine in_und2 hi0 (fC := fun Dh => some (rw_at (Dh 3) 2 (Int32.ofNat i), rw_put Dh 3 2 (Int32.ofNat i) (Int32.ofNat x))) (fM := fun D4 => (if ((5 : Int32) + Int32.ofNat i) < 0 ∨ 405 ≤ (5 + Int32.ofNat i).toNatClampNeg then none else (if ((5 : Int32) + Int32.ofNat i) < 0 ∨ 405 ≤ (5 + Int32.ofNat i).toNatClampNeg then none else some ((D4 322 (5 + Int32.ofNat i).toNatClampNeg), (am_upd D4 322 (5 + Int32.ofNat i).toNatClampNeg (Int32.ofNat x)))))) (fun Dh hh hok => ?_)
  have e5 : (5 : Int32) + Int32.ofNat i = Int32.ofNat (5 + i) := n_add 5 i
  have sp : so (5 + i) = 2 ∧ sj (5 + i) = i := by
    obtain rfl | rfl : i = 0 ∨ i = 1 := by omega
    · exact ⟨rfl, rfl⟩
    · exact ⟨rfl, rfl⟩
  have q := ok_i hok (5 + i) (by omega)
  have sg := st_set (i := 5 + i) (x := x) (lo := lo) (hi := hi) (by omega) h3 h4 hok
  rw [sp.1, sp.2] at q sg
  refine ⟨Dh 3 i, am_upd Dh 3 i (Int32.ofNat x), ?_, fun a ha => u_row (by omega), fun D4 c2 => ⟨am_upd D4 322 (5 + i) (Int32.ofNat x), ?_, fun a ha => u_row ha, _, _, st_mono (by omega) sg, fun j _ => ?_, fun o j _ => by rw [st_v_up (r' := 3) (r := 2) rfl]⟩⟩
  · rw [rw_at_nI h2 (by decide), rw_put_nI h2 (by decide)]
  · rw [e5, if_neg (n_bad (by decide) (by omega)), if_neg (n_bad (by decide) (by omega)), c_ofNat (by omega), c2, q]
  · rw [up_row, c2]
set_option maxHeartbeats 1000000 in
theorem op_4 {k : Nat} {D : am_DD} (a1 a2 : Int32) (hi : in_ok k D) : in_wr (hmf 2 0 1) k (fn_61 a1 a2 D) (fn_63 a1 a2) := by
  have l1 := i_lt a2 1
  have l9 := i_le a2 9
  have l40 := i_le a2 40
  rw [l_1] at l1
  rw [l_9] at l9
  rw [l_40] at l40
  by_cases h0 : a1 = 0
  · subst h0
    have c1 : rng (0 : Int32) (0 : Int32).toInt (1 : Int32).toInt := by decide
    by_cases h1 : rng a2 (1 : Int32).toInt (9 : Int32).toInt
    · obtain ⟨x, rfl, hx, -⟩ := rng_nat (a := a2) (hi := 9) ⟨by have := h1.1; rw [l_1] at this; omega, by have := h1.2; rw [l_9] at this; omega⟩
      have hx1 : 1 ≤ x := by have := h1.1; rw [t_ofNat (by omega), l_1] at this; omega
      obtain ⟨Dh, y, D1, D4, D5, u1, u2, u3, u4, u5, u6, u7, u8⟩ := sx (i := 0) (x := x) (lo := 1) (hi := 9) hi (by omega) (by omega) hx1 (by omega)
      have g1 := Prod.mk.inj (Option.some.inj u2)
      have n1 : ¬ Int32.ofNat x < 1 := fun z => by have := l1.mp z; rw [t_ofNat (by omega)] at this; omega
      have n9 : Int32.ofNat x ≤ 9 := l9.mpr (by rw [t_ofNat (by omega)]; omega)
      refine ⟨y, 0, D1, ?_, Or.inl ⟨rfl, D5, ?_, u5, u6, u7⟩⟩
      · unfold fn_61
        simp only [if_true, if_neg n1, if_pos n9, not_true, if_false, u1]
        rw [← g1.1, ← g1.2]
        rfl
      · unfold fn_63
        simp only [fn_26_b, b01_t c1, b01_t h1, i10, not_false_eq_true, not_true, if_true, if_false, fn_29_0, u3]
        exact u4
    · have h1' : ¬ (1 ≤ a2.toInt ∧ a2.toInt ≤ 9) := fun z => h1 ⟨by rw [l_1]; exact z.1, by rw [l_9]; exact z.2⟩
      refine in_no (kk := 1) (y := 0) (b := 0) hi ?_ (by omega) (by decide) ?_
      · unfold fn_61
        by_cases q1 : a2 < 1
        · simp only [if_true, if_pos q1]
        · have q9 : ¬ a2 ≤ 9 := fun z => h1' ⟨by have := mt l1.mpr q1; omega, l9.mp z⟩
          simp only [if_true, if_neg q1, if_neg q9, not_true, if_false]
      · unfold fn_63
        simp only [fn_26_b, b01_t c1, b01_f h1, i10, not_false_eq_true, not_true, if_true, if_false, fn_29_2]
        rfl
  · by_cases h0' : a1 = 1
    · subst h0'
      have c1 : rng (1 : Int32) (0 : Int32).toInt (1 : Int32).toInt := by decide
      by_cases h1 : rng a2 (1 : Int32).toInt (40 : Int32).toInt
      · obtain ⟨x, rfl, hx, -⟩ := rng_nat (a := a2) (hi := 40) ⟨by have := h1.1; rw [l_1] at this; omega, by have := h1.2; rw [l_40] at this; omega⟩
        have hx1 : 1 ≤ x := by have := h1.1; rw [t_ofNat (by omega), l_1] at this; omega
        obtain ⟨Dh, y, D1, D4, D5, u1, u2, u3, u4, u5, u6, u7, u8⟩ := sx (i := 1) (x := x) (lo := 1) (hi := 40) hi (by omega) (by omega) hx1 (by omega)
        have g1 := Prod.mk.inj (Option.some.inj u2)
        have n1 : ¬ Int32.ofNat x < 1 := fun z => by have := l1.mp z; rw [t_ofNat (by omega)] at this; omega
        have n9 : Int32.ofNat x ≤ 40 := l40.mpr (by rw [t_ofNat (by omega)]; omega)
        refine ⟨y, 0, D1, ?_, Or.inl ⟨rfl, D5, ?_, u5, u6, u7⟩⟩
        · unfold fn_61
          simp only [i10, if_true, if_neg n1, if_pos n9, not_true, not_false_eq_true, if_false, u1]
          rw [← g1.1, ← g1.2]
          rfl
        · unfold fn_63
          simp only [fn_26_b, b01_t c1, b01_t h1, i10, not_false_eq_true, not_true, if_true, if_false, fn_29_0, u3]
          exact u4
      · have h1' : ¬ (1 ≤ a2.toInt ∧ a2.toInt ≤ 40) := fun z => h1 ⟨by rw [l_1]; exact z.1, by rw [l_40]; exact z.2⟩
        refine in_no (kk := 1) (y := 0) (b := 0) hi ?_ (by omega) (by decide) ?_
        · unfold fn_61
          by_cases q1 : a2 < 1
          · simp only [i10, if_false, if_true, if_pos q1]
          · have q9 : ¬ a2 ≤ 40 := fun z => h1' ⟨by have := mt l1.mpr q1; omega, l40.mp z⟩
            simp only [i10, if_true, if_neg q1, if_neg q9, not_false_eq_true, if_false]
        · unfold fn_63
          simp only [fn_26_b, b01_t c1, b01_f h1, i10, not_false_eq_true, not_true, if_true, if_false, fn_29_2]
          rfl
    · have c1 : ¬ rng a1 (0 : Int32).toInt (1 : Int32).toInt := fun z => by
        have q0 := mt (i_eq a1 0).mpr h0
        have q1 := mt (i_eq a1 1).mpr h0'
        rw [l_0] at q0
        rw [l_1] at q1
        obtain ⟨z1, z2⟩ := z
        rw [l_0] at z1
        rw [l_1] at z2
        omega
      refine in_no (kk := 3) (y := 0) (b := 0) hi ?_ (by omega) (by decide) ?_
      · unfold fn_61
        simp only [if_neg h0, if_neg h0']
      · unfold fn_63
        simp only [fn_26_b, b01_f c1, i10, not_false_eq_true, not_true, if_true, if_false, fn_29_1]
        rfl
/-! balls are asked for -/
theorem st_drop {B w p : Nat} {D4 Dh : am_DD} (hw : Dh 322 4 = Int32.ofNat w) (hw2 : Dh 1 2 = Int32.ofNat w) (h : w + p ≤ 200) (hok : st_ok B (Dh 322) (st_v Dh 1)) (c2 : D4 322 = Dh 322) :
    fn_65 (Int32.ofNat p) Dh = some (Int32.ofNat (w + p), am_upd Dh 1 2 (Int32.ofNat (w + p))) ∧ fn_69 (Int32.ofNat p) D4 = some (Int32.ofNat (w + p), am_upd D4 322 4 (Int32.ofNat (w + p))) ∧ st_ok B (am_upd D4 322 4 (Int32.ofNat (w + p)) 322) (st_v (am_upd Dh 1 2 (Int32.ofNat (w + p))) 1) := by
  refine ⟨?_, ?_, ?_⟩
  · unfold fn_65
    rw [u_self, hw2, n_add]
  · unfold fn_69
    rw [u_self, c2, hw, n_add]
  · have sg := st_set (i := 4) (x := w + p) (lo := 0) (hi := 200) (by omega) (by omega) h hok
    rw [up_row, c2, st_v_up (r' := 1) (r := 0) rfl]
    exact sg
theorem fn_64_b {D : am_DD} {w p : Nat} (hw2 : D 1 2 = Int32.ofNat w) (hw : w ≤ 200) (hp : p ≤ 1000) : fn_64 (Int32.ofNat p) D = some (b01 (w + p ≤ 200), D) := by
  unfold fn_64
  rw [hw2, n_add]
  have e : (200 : Int32) < Int32.ofNat (w + p) ↔ 200 < w + p := n_lt (a := 200) (by omega) (by omega)
  by_cases z : 200 < w + p
  · rw [if_pos (e.mpr z), b01_f (by omega)]
  · rw [if_neg (mt e.mp z), b01_t (by omega)]
theorem fn_68_b {D : am_DD} {w p : Nat} (hw2 : D 322 4 = Int32.ofNat w) (hw : w ≤ 200) (hp : 1 ≤ p) (hp2 : p ≤ 40) : fn_68 (Int32.ofNat p) D = some (if w + p ≤ 200 then 0 else 2, D) := by
  unfold fn_68
  have c : rng (Int32.ofNat p) (1 : Int32).toInt (40 : Int32).toInt := by
    rw [l_1, l_40, rng, t_ofNat (by omega)]
    omega
  simp only [fn_26_b, b01_t c, i10, not_false_eq_true, if_true]
  rw [hw2, n_add]
  have e : Int32.ofNat (w + p) ≤ 200 ↔ w + p ≤ 200 := n_le (b := 200) (by omega) (by omega)
  by_cases z : w + p ≤ 200
  · rw [if_pos (e.mpr z), if_pos z]
  · rw [if_neg (mt e.mp z), if_neg z]
set_option maxHeartbeats 1000000 in
theorem op_5 {k : Nat} {D : am_DD} (a : Int32) (hi : in_ok k D) : in_wr (hmf 1 2 0) k (fn_66 a D) (fn_70 a) := by
  obtain ⟨w, hw, e1, e2⟩ := ok_rest hi.1
  have l1 := i_lt a 1
  have l40 := i_le a 40
  rw [l_1] at l1
  rw [l_40] at l40
  by_cases h1 : rng a 1 40
  · obtain ⟨p, rfl, hp, hp31⟩ := rng_nat (a := a) (hi := 40) ⟨by have := h1.1; omega, h1.2⟩
    have hp1 : 1 ≤ p := by have := h1.1; rw [t_ofNat (by omega)] at this; omega
    have n1 : ¬ Int32.ofNat p < 1 := fun z => by have := l1.mp z; rw [t_ofNat (by omega)] at this; omega
    have n9 : Int32.ofNat p ≤ 40 := l40.mpr (by rw [t_ofNat (by omega)]; omega)
    by_cases h2 : w + p ≤ 200
    · obtain ⟨Dh, y, D1, D4, D5, u1, u2, u3, u4, u5, u6, u7, u8⟩ := in_und2 hi (fC := fn_65 (Int32.ofNat p)) (fM := fn_69 (Int32.ofNat p)) (by
        intro Dh hh hok
        have c3 : Dh 322 4 = Int32.ofNat w := by rw [hh_at hh (by omega) (by omega), e1]
        have c4 : Dh 1 2 = Int32.ofNat w := by rw [hh_at hh (by omega) (by omega), e2]
        have z := fun D4 c2 => st_drop (D4 := D4) c3 c4 h2 hok c2
        exact ⟨_, _, (z Dh rfl).1, fun a ha => u_row (by omega), fun D4 c2 => ⟨_, (z D4 c2).2.1, fun a ha => u_row ha, _, _, st_mono (by omega) (z D4 c2).2.2, fun _ _ => rfl, fun _ _ _ => rfl⟩⟩)
      refine ⟨y, 0, D1, ?_, Or.inl ⟨rfl, D5, ?_, u5, u6, u7⟩⟩
      · unfold fn_66
        simp only [if_neg n1, if_pos n9, fn_64_b e2 hw (show p ≤ 1000 by omega), b01_t h2, i10, not_false_eq_true, if_true, u1, u2]
      · have e3 : am_upd D1 329 0 y 322 4 = Int32.ofNat w := by rw [u_ne (by omega), u8 322 4 (by omega) (by decide), e1]
        unfold fn_70
        rw [fn_68_b e3 hw hp1 (by omega), if_pos h2]
        simp only [fn_29_0, i10, not_false_eq_true, if_true, u3, u4]
    · refine in_no (kk := 2) (y := 0) (b := 0) hi ?_ (by omega) (by decide) ?_
      · unfold fn_66
        simp only [if_neg n1, if_pos n9, fn_64_b e2 hw (show p ≤ 1000 by omega), b01_f h2, not_true, if_false]
      · unfold fn_70
        rw [fn_68_b e1 hw hp1 (by omega), if_neg h2]
        simp only [fn_29_2, not_true, if_false]
        rfl
  · refine in_no (kk := 1) (y := 0) (b := 0) hi ?_ (by omega) (by decide) ?_
    · unfold fn_66
      by_cases q1 : a < 1
      · simp only [if_pos q1]
      · have q9 : ¬ a ≤ 40 := fun z => h1 ⟨by have := mt l1.mpr q1; omega, l40.mp z⟩
        simp only [if_neg q1, if_neg q9]
    · have c : ¬ rng a (1 : Int32).toInt (40 : Int32).toInt := by rw [l_1, l_40]; exact h1
      unfold fn_70 fn_68
      simp only [fn_26_b, b01_f c, not_true, if_false, fn_29_1]
      rfl
/-! a bin is emptied -/
theorem bx {b : Nat} : (95 : Int32) + Int32.ofNat b = Int32.ofNat (95 + b) := n_add 95 b
theorem ok_b {B : Nat} {D : am_DD} (h : st_ok B (D 322) (st_v D 1)) : ∀ b w, b < 5 → w < 2 → D 322 (95 + 5 * w + b) = D (1 + (4 + 2 * w)) b := h.elim fun _ h => h.elim fun _ h => h.elim fun _ h => h.elim fun _ h => h.elim fun _ h => h.elim fun _ h => h.elim fun _ h => h.1.2.2.1
theorem st_empty {B b : Nat} {s : Nat → Int32} {E : Nat → Nat → Int32} (hb5 : b < 5) (h : st_ok B s E) : st_ok B (up (up s (95 + b) 0) 2 (s 2 + s (95 + b))) (am_upd (am_upd E 4 b 0) 0 1 (s 2 + s (95 + b))) := by
  obtain ⟨m, n, st, kp, o, hb, nb, r, e1, e2, gs, bl, rs⟩ := h
  have hk : kp ≤ 60 := rs.2.2.2.2.2.1
  obtain ⟨b1, b2, b3, b4, b5⟩ := bl
  have hr := rl_lv (i0 := 2) (s 2 + s (95 + b)) (by omega) (rl_lv (i0 := 95 + 5 * 0 + b) 0 (by omega) ((rel_rl (by omega) hk).mp r))
  rw [lc_b o hb5 (by omega), lc_a o (by omega)] at hr
  refine ⟨m, n, st + hb b, kp, o, fun b' => if b' = b then 0 else hb b', nb, (rel_rl (by omega) hk).mpr hr, by rw [u_ne (by omega), u_ne (by omega)]; exact e1, e2, st_gates_congr (by rw [up_ne (by omega), up_ne (by omega)]) (fun _ _ _ => by rw [up_ne (by omega), up_ne (by omega)]) gs, ⟨by rw [up_ne (by omega), up_ne (by omega)]; exact b1, by rw [up_self, b2, b3 b hb5, n_add], fun b' hb' => ?_, ?_, fun r hr => by rw [up_ne (by omega), up_ne (by omega)]; exact b5 r hr⟩, ?_⟩
  · rw [up_ne (by omega)]
    by_cases z : b' = b
    · rw [z, up_self]
      dsimp only
      rw [if_pos rfl]
      rfl
    · rw [up_ne (by omega), b3 b' hb']
      dsimp only
      rw [if_neg z]
  · dsimp only
    obtain rfl | rfl | rfl | rfl | rfl : b = 0 ∨ b = 1 ∨ b = 2 ∨ b = 3 ∨ b = 4 := by omega
    all_goals simp
    all_goals omega
  · refine st_rest_congr ?_ ?_ ?_ ?_ ?_ (fun _ _ _ => ?_) rs <;> rw [up_ne (by omega), up_ne (by omega)]
def em_M (a1 : Int32) (D15 : am_DD) : Option (Int32 × am_DD) := (if (95 + a1) < 0 ∨ 405 ≤ (95 + a1).toNatClampNeg then none else (if (95 + a1) < 0 ∨ 405 ≤ (95 + a1).toNatClampNeg then none else some ((D15 322 (95 + a1).toNatClampNeg), (am_upd (am_upd D15 322 (95 + a1).toNatClampNeg 0) 322 2 (((am_upd D15 322 (95 + a1).toNatClampNeg 0) 322 2) + (D15 322 (95 + a1).toNatClampNeg))))))
theorem em_M_n {b : Nat} {D : am_DD} (hb : b < 5) : em_M (Int32.ofNat b) D = some (D 322 (95 + b), am_upd (am_upd D 322 (95 + b) 0) 322 2 (D 322 2 + D 322 (95 + b))) := by
  unfold em_M
  rw [bx, if_neg (n_bad (by decide) (by omega)), if_neg (n_bad (by decide) (by omega)), c_ofNat (by omega), u_ne (by omega)]
set_option maxHeartbeats 1000000 in
theorem op_7 {k : Nat} {D : am_DD} (a : Int32) (hi : in_ok k D) : in_wr (hmf 0 0 1) k (fn_93 a D) (fn_95 a) := by
  by_cases h1 : rng a 0 4
  · obtain ⟨b, rfl, hb, -⟩ := rng_nat h1
    obtain ⟨Dh, y, D1, D4, D5, u1, u2, u3, u4, u5, u6, u7, u8⟩ := in_und2 hi (fC := fn_92 (Int32.ofNat b)) (fM := em_M (Int32.ofNat b)) (by
      intro Dh hh hok
      have q0 : Dh 322 (95 + b) = Dh 5 b := ok_b hok b 0 (by omega) (by omega)
      have q2 : Dh 322 2 = Dh 1 1 := ok_i hok 2 (by omega)
      have sg := st_empty (b := b) (by omega) hok
      refine ⟨Dh 5 b, am_upd (am_upd Dh 5 b 0) 1 1 (Dh 1 1 + Dh 5 b), ?_, fun a ha => by rw [u_row (by omega), u_row (by omega)], fun D4 c2 => ⟨_, (em_M_n (by omega)).trans (by rw [c2, q0]), fun a ha => by rw [u_row (by omega), u_row (by omega)], _, _, st_mono (by omega) sg, fun j _ => ?_, fun o j _ => ?_⟩⟩
      · unfold fn_92
        rw [rw_at_nI (by omega) (by decide), rw_put_nI (by omega) (by decide), u_ne (by omega)]
      · rw [up_row, up_row, c2, q0]
      · rw [st_v_up (r' := 1) (r := 0) rfl, st_v_up (r' := 5) (r := 4) rfl, q0, q2])
    unfold em_M at u4
    refine ⟨y, 0, D1, ?_, Or.inl ⟨rfl, D5, ?_, u5, u6, u7⟩⟩
    · unfold fn_93
      simp only [fn_91_b, b01_t h1, i10, not_false_eq_true, if_true, u1, u2]
    · unfold fn_95
      simp only [fn_45_b, b01_t h1, i10, not_false_eq_true, if_true, if_false, fn_29_0, u3]
      exact u4
  · refine in_no (kk := 3) (y := 0) (b := 0) hi ?_ (by omega) (by decide) ?_
    · unfold fn_93
      simp only [fn_91_b, b01_f h1, not_true, if_false]
    · unfold fn_95
      simp only [fn_45_b, b01_f h1, fn_29_1, not_true, if_true, if_false]
      rfl
