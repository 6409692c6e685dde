/-! one order is carried out by both -/
def mixD (C R : am_DD) : am_DD := fun a => if a = 322 then R 322 else C a
theorem mix_r (C R : am_DD) : mixD C R 322 = R 322 := if_pos rfl
theorem mix_c {C R : am_DD} {a : Nat} (h : a ≠ 322) : mixD C R a = C a := if_neg h
theorem mix_ok {B : Nat} {C R : am_DD} (h : st_ok B (R 322) (st_v C 1)) : st_ok B (mixD C R 322) (st_v (mixD C R) 1) := by
  rw [mix_r]
  refine st_congr (fun _ _ => rfl) (fun o j ho => ?_) h
  have := st_v_hit ho
  unfold st_v
  rw [mix_c (by omega)]
theorem ok_m2 {B : Nat} {C R : am_DD} (h : st_ok B (R 322) (st_v C 1)) : ∃ m, m ≤ 12 ∧ R 322 1 = Int32.ofNat m ∧ C 8 0 = Int32.ofNat m := by
  obtain ⟨m, h1, h2, h3⟩ := ok_m (mix_ok h)
  rw [mix_r] at h2
  rw [mix_c (by omega)] at h3
  exact ⟨m, h1, h2, h3⟩
theorem ok_w2 {B : Nat} {C R : am_DD} (h : st_ok B (R 322) (st_v C 1)) : ∃ w, w ≤ 200 ∧ R 322 4 = Int32.ofNat w ∧ C 1 2 = Int32.ofNat w := by
  obtain ⟨m, h1, h2, h3⟩ := ok_rest (mix_ok h)
  rw [mix_r] at h2
  rw [mix_c (by omega)] at h3
  exact ⟨m, h1, h2, h3⟩
/-- both refuse, or both carry it out -/
def ex_ok (B : Nat) (j : Nat) (C R : am_DD) : Prop :=
  (fn_135 (Int32.ofNat j) C = some (0, C) ∧ fn_124 R = some (0, R)) ∨ ∃ C1 y R1, fn_135 (Int32.ofNat j) C = some (1, C1) ∧ (∀ a, 33 ≤ a → C1 a = C a) ∧ fn_124 R = some (1, R) ∧ fn_125 R = some (y, R1) ∧ (∀ a, a ≠ 322 → R1 a = R a) ∧ st_ok (B + 50) (R1 322) (st_v C1 1)
section VX
variable {B j v x t : Nat} {C R : am_DD}
theorem rng_n {a : Nat} {hi : Int} (ha : a < 2 ^ 31) : rng (Int32.ofNat a) 0 hi ↔ (a : Int) ≤ hi := by
  rw [rng, t_ofNat ha]
  omega
theorem rng_n2 {a : Nat} (ha : a < 2 ^ 31) : rng (Int32.ofNat a) 20 24 ↔ 20 ≤ a ∧ a ≤ 24 := by
  rw [rng, t_ofNat ha]
  omega
theorem ex_100 (h : st_ok B (R 322) (st_v C 1)) (hj : j < 20) (k1 : C 49 j = 100) (n1 : C 51 j = Int32.ofNat v) (k2 : R 321 10 = 100) (n2 : R 328 0 = Int32.ofNat v) (hv : 1 ≤ v ∧ v ≤ 40) : ex_ok B j C R := by
  obtain ⟨w, hw, e1, e2⟩ := ok_w2 h
  have c64 : fn_64 (Int32.ofNat v) C = some (b01 (w + v ≤ 200), C) := fn_64_b e2 hw (by omega)
  have c68 : fn_68 (Int32.ofNat v) R = some (if w + v ≤ 200 then 0 else 2, R) := fn_68_b e1 hw hv.1 hv.2
  have a49 : rw_at (C 49) 20 (Int32.ofNat j) = 100 := by rw [rw_at_nI hj (by omega), k1]
  have a51 : rw_at (C 51) 20 (Int32.ofNat j) = Int32.ofNat v := by rw [rw_at_nI hj (by omega), n1]
  unfold ex_ok
  by_cases q : w + v ≤ 200
  · right
    refine ⟨am_upd C 1 2 (Int32.ofNat (w + v)), Int32.ofNat (w + v), am_upd R 322 4 (Int32.ofNat (w + v)), ?_, fun a ha => u_row (by omega), ?_, ?_, fun a ha => u_row ha, ?_⟩
    · unfold fn_135 fn_130 fn_133 fn_131
      dsimp only
      rw [a49, a51, if_pos rfl, c64, b01_t q]
      dsimp only
      rw [if_pos (show ay_isb 1 = true from rfl)]
      dsimp only
      rw [if_pos (by decide), a49, if_pos rfl]
      unfold fn_65
      rw [u_self, e2, n_add]
    · unfold fn_124
      rw [k2, if_pos rfl, n2, c68, if_pos q]
      rfl
    · unfold fn_125 fn_69
      rw [k2, if_pos rfl, n2]
      dsimp only
      rw [u_self, e1, n_add]
    · have sg := st_set (i := 4) (x := w + v) (lo := 0) (hi := 200) (by omega) (by omega) q h
      rw [up_row, st_v_up (r' := 1) (r := 0) rfl]
      exact st_mono (by omega) sg
  · left
    refine ⟨?_, ?_⟩
    · unfold fn_135 fn_130 fn_133 fn_131
      dsimp only
      rw [a49, a51, if_pos rfl, c64, b01_f q]
      rfl
    · unfold fn_124
      rw [k2, if_pos rfl, n2, c68, if_neg q]
      rfl
theorem ex_101 (h : st_ok B (R 322) (st_v C 1)) (hj : j < 20) (k1 : C 49 j = 101) (n1 : C 51 j = Int32.ofNat v) (x1 : C 53 j = Int32.ofNat x) (t1 : C 55 j = Int32.ofNat t) (k2 : R 321 10 = 101) (n2 : R 328 0 = Int32.ofNat v) (x2 : R 328 1 = Int32.ofNat x) (t2 : R 328 2 = Int32.ofNat t) (hv : v ≤ 11) (hx : x < 2) (ht : t < 12 ∨ (20 ≤ t ∧ t < 25)) : ex_ok B j C R := by
  obtain ⟨m, hm, e1, e2⟩ := ok_m2 h
  have a49 : rw_at (C 49) 20 (Int32.ofNat j) = 101 := by rw [rw_at_nI hj (by omega), k1]
  have a51 : rw_at (C 51) 20 (Int32.ofNat j) = Int32.ofNat v := by rw [rw_at_nI hj (by omega), n1]
  have a53 : rw_at (C 53) 20 (Int32.ofNat j) = Int32.ofNat x := by rw [rw_at_nI hj (by omega), x1]
  have a55 : rw_at (C 55) 20 (Int32.ofNat j) = Int32.ofNat t := by rw [rw_at_nI hj (by omega), t1]
  have c36 : fn_36 (Int32.ofNat v) C = some (b01 (rng (Int32.ofNat v) 0 (m - 1)), C) := fn_36_b e2 hm
  have c38 : fn_38 (Int32.ofNat t) C = some (b01 (rng (Int32.ofNat t) 0 (m - 1) ∨ rng (Int32.ofNat t) 20 24), C) := fn_38_b e2 hm
  have c47 : fn_47 (Int32.ofNat v) (Int32.ofNat x) (Int32.ofNat t) R = _ := fn_47_b e1 hm
  have r1 : rng (Int32.ofNat v) 0 (m - 1) ↔ v < m := by rw [rng_n (by omega)]; omega
  have r2 : rng (Int32.ofNat x) 0 1 := by rw [rng_n (by omega)]; omega
  have r3 : (rng (Int32.ofNat t) 0 (m - 1) ∨ rng (Int32.ofNat t) 20 24) ↔ (t < m ∨ 20 ≤ t) := by rw [rng_n (by omega), rng_n2 (by omega)]; omega
  have lt : Int32.ofNat v < Int32.ofNat t ↔ v < t := n_lt (by omega) (by omega)
  have le : Int32.ofNat t ≤ Int32.ofNat v ↔ t ≤ v := n_le (by omega) (by omega)
  rw [b01_congr r1] at c36
  rw [b01_congr r3] at c38
  unfold ex_ok
  have cno : ¬ (v < m ∧ (t < m ∨ 20 ≤ t) ∧ v < t) → fn_133 (Int32.ofNat j) (Int32.ofNat v) C = some (0, C) := by
    intro q
    unfold fn_133 fn_131 fn_132
    dsimp only
    rw [a49, if_neg (by decide), if_pos rfl]
    rw [c36]
    by_cases q1 : v < m
    · rw [b01_t q1, a55]
      dsimp only
      rw [if_neg (by decide), c38]
      by_cases q2 : t < m ∨ 20 ≤ t
      · rw [b01_t q2]
        dsimp only
        rw [if_neg (by decide), if_pos (le.mpr (by omega))]
      · rw [b01_f q2]
        rfl
    · rw [b01_f q1]
      rfl
  have cyes : (v < m ∧ (t < m ∨ 20 ≤ t) ∧ v < t) → fn_133 (Int32.ofNat j) (Int32.ofNat v) C = some (1, C) := by
    intro q
    unfold fn_133 fn_131 fn_132
    dsimp only
    rw [a49, if_neg (by decide), if_pos rfl]
    rw [c36, b01_t q.1, a55]
    dsimp only
    rw [if_neg (by decide), c38, b01_t q.2.1]
    dsimp only
    rw [if_neg (by decide), if_neg (mt le.mp (by omega))]
  by_cases q : v < m ∧ (t < m ∨ 20 ≤ t) ∧ v < t
  · right
    have q2 : (2 : Int32) + Int32.ofNat x = Int32.ofNat (2 + x) := n_add 2 x
    have j2 := gj_2 (g := v) (e := x) hx
    refine ⟨am_upd C 16 (2 * v + x) (Int32.ofNat t), R 322 (11 + 7 * v + (2 + x)), am_upd R 322 (11 + 7 * v + (2 + x)) (Int32.ofNat t), ?_, fun a ha => u_row (by omega), ?_, ?_, fun a ha => u_row ha, ?_⟩
    · unfold fn_135 fn_130
      dsimp only
      rw [a51, cyes q]
      unfold fn_131 fn_134 fn_132
      dsimp only
      rw [if_pos (by decide), a49, if_neg (by decide), if_pos rfl, a53, a55]
      unfold fn_41
      rw [gx2, rw_at_nI (by omega) (by decide), rw_put_nI (by omega) (by decide)]
    · unfold fn_124
      rw [k2, if_neg (by decide), if_pos rfl, n2, x2, t2, c47, if_pos ⟨⟨r1.mpr q.1, r2⟩, r3.mpr q.2.1⟩, if_pos (lt.mpr q.2.2)]
      rfl
    · unfold fn_125
      rw [k2, if_neg (by decide), if_pos rfl, n2, x2, t2]
      unfold fn_49
      rw [q2, fn_48_n (by omega)]
      dsimp only
      rw [fn_32_n (by omega)]
    · have sg := st_gset (m' := m) (g := v) (w := 2 + x) (v := Int32.ofNat t) e1 hm (by omega) (by omega) (fun h => by omega) (fun h => by omega) (fun _ => ⟨t, rfl, by omega⟩) h
      rw [j2.1, j2.2] at sg
      rw [up_row, st_v_up (r' := 16) (r := 15) rfl]
      exact st_mono (by omega) sg
  · left
    refine ⟨?_, ?_⟩
    · unfold fn_135 fn_130
      dsimp only
      rw [a51, cno q]
      rfl
    · unfold fn_124
      rw [k2, if_neg (by decide), if_pos rfl, n2, x2, t2, c47]
      by_cases q1 : (rng (Int32.ofNat v) 0 (m - 1) ∧ rng (Int32.ofNat x) 0 1) ∧ (rng (Int32.ofNat t) 0 (m - 1) ∨ rng (Int32.ofNat t) 20 24)
      · rw [if_pos q1, if_neg (fun z => q ⟨r1.mp q1.1.1, r3.mp q1.2, lt.mp z⟩)]
        rfl
      · rw [if_neg q1]
        rfl
theorem ex_103 (h : st_ok B (R 322) (st_v C 1)) (hj : j < 20) (k1 : C 49 j = 103) (n1 : C 51 j = Int32.ofNat v) (k2 : R 321 10 = 103) (n2 : R 328 0 = Int32.ofNat v) (hv : v ≤ 30) : ex_ok B j C R := by
  obtain ⟨m, hm, e1, e2⟩ := ok_m2 h
  have a49 : rw_at (C 49) 20 (Int32.ofNat j) = 103 := by rw [rw_at_nI hj (by omega), k1]
  have a51 : rw_at (C 51) 20 (Int32.ofNat j) = Int32.ofNat v := by rw [rw_at_nI hj (by omega), n1]
  have c14 : fn_14 C = some (b01 (m < 12), C) := fn_14_b e2 hm
  have c28 : fn_28 (Int32.ofNat v) R = _ := fn_28_b e1 hm
  have r1 : rng (Int32.ofNat v) 0 30 := by rw [rng_n (by omega)]; omega
  rw [if_pos r1] at c28
  unfold ex_ok
  by_cases q : m < 12
  · right
    rw [if_pos q] at c28
    have t0 : (2 : Int32) * Int32.ofNat m = Int32.ofNat (2 * m) := n_mul 2 m
    have t1 : Int32.ofNat (2 * m) + 1 = Int32.ofNat (2 * m + 1) := nI_up _
    obtain ⟨R1, i1, i2, i3, i4, i5, i6, i7⟩ := fn_33_lp (m := m) (a := Int32.ofNat v) q 7 0 100000 R (by omega) (by omega)
    obtain ⟨sg, z0, z1, z2, z3⟩ := st_addg (m' := m) (p := v) e1 q hv h
    refine ⟨am_upd (am_upd (am_upd (am_upd C 8 0 (Int32.ofNat (m + 1))) 12 m (Int32.ofNat v)) 16 (2 * m) 20) 16 (2 * m + 1) 20, Int32.ofNat m, R1, ?_, fun a ha => ?_, ?_, ?_, fun a ha => ?_, ?_⟩
    · unfold fn_135 fn_130 fn_133 fn_131
      dsimp only
      rw [a49, a51, if_neg (by decide), if_neg (by decide), if_pos rfl, c14, b01_t q]
      dsimp only
      rw [if_pos (show ay_isb 1 = true from rfl)]
      dsimp only
      rw [if_pos (by decide), a49, if_neg (by decide), if_neg (by decide), if_pos rfl]
      unfold fn_23
      rw [e2, t0, t1, rw_put_nI (by omega) (by decide), rw_put_nI (by omega) (by decide), rw_put_nI (by omega) (by decide), nI_up]
    · rw [u_row (by omega), u_row (by omega), u_row (by omega), u_row (by omega)]
    · unfold fn_124
      rw [k2, if_neg (by decide), if_neg (by decide), if_pos rfl, n2, c28]
      rfl
    · unfold fn_125
      rw [k2, if_neg (by decide), if_neg (by decide), if_pos rfl, n2]
      unfold fn_33 am_F
      have i1' : fn_33_9 100000 (Int32.ofNat v) (Int32.ofNat m) 0 R = some (Int32.ofNat m, R1) := i1
      rw [e1, i1']
    · funext j'
      exact i2 a j' ha
    · refine st_mono (by omega) (st_congr (fun j' hj' => ?_) (fun o j' ho => ?_) sg)
      · by_cases j1 : j' = 11 + 7 * m + 3
        · rw [j1, up_self, show 11 + 7 * m + 3 = 14 + 7 * m by omega, i6]
        · rw [up_ne j1]
          by_cases j2 : j' = 11 + 7 * m + 2
          · rw [j2, up_self, show 11 + 7 * m + 2 = 13 + 7 * m by omega, i5]
          · rw [up_ne j2]
            by_cases j3 : j' = 11 + 7 * m + 1
            · rw [j3, up_self, show 11 + 7 * m + 1 = 12 + 7 * m by omega, i4]
            · rw [up_ne j3]
              by_cases j4 : j' = 1
              · rw [j4, up_self, i3, e1, nI_up]
              · rw [up_ne j4, i7 j' j4 (by omega) (by omega) (by omega)]
                by_cases j5 : 11 + 7 * m + 0 ≤ j' ∧ j' < 18 + 7 * m
                · rw [if_pos j5]
                  by_cases q0 : j' = 11 + 7 * m
                  · rw [q0, z0]
                  · by_cases q1 : j' = 15 + 7 * m
                    · rw [q1, z1]
                    · by_cases q2 : j' = 16 + 7 * m
                      · rw [q2, z2]
                      · rw [show j' = 17 + 7 * m by omega, z3]
                · rw [if_neg j5]
      · rw [st_v_up (r' := 16) (r := 15) rfl, st_v_up (r' := 16) (r := 15) rfl, st_v_up (r' := 12) (r := 11) rfl, st_v_up (r' := 8) (r := 7) rfl]
  · left
    rw [if_neg q] at c28
    refine ⟨?_, ?_⟩
    · unfold fn_135 fn_130 fn_133 fn_131
      dsimp only
      rw [a49, a51, if_neg (by decide), if_neg (by decide), if_pos rfl, c14, b01_f q]
      rfl
    · unfold fn_124
      rw [k2, if_neg (by decide), if_neg (by decide), if_pos rfl, n2, c28]
      rfl
theorem ex_116 (h : st_ok B (R 322) (st_v C 1)) (hj : j < 20) (k1 : C 49 j = 116) (n1 : C 51 j = Int32.ofNat v) (k2 : R 321 10 = 116) (n2 : R 328 0 = Int32.ofNat v) (hv : v ≤ 50) : ex_ok B j C R := by
  have a49 : rw_at (C 49) 20 (Int32.ofNat j) = 116 := by rw [rw_at_nI hj (by omega), k1]
  have a51 : rw_at (C 51) 20 (Int32.ofNat j) = Int32.ofNat v := by rw [rw_at_nI hj (by omega), n1]
  obtain ⟨y, C1, R1, b1, b2, b3, b4, b5⟩ := play (p := v) (D := C) (D' := R) hv h
  right
  refine ⟨C1, y, R1, ?_, b4, ?_, ?_, b5, st_mono (by omega) b3⟩
  · unfold fn_135 fn_130 fn_133 fn_131
    dsimp only
    rw [a49, a51, if_neg (by decide), if_neg (by decide), if_neg (by decide), if_pos rfl]
    dsimp only
    rw [if_pos (by decide), a49, if_neg (by decide), if_neg (by decide), if_neg (by decide), if_pos rfl, b1]
  · unfold fn_124
    rw [k2, if_neg (by decide), if_neg (by decide), if_neg (by decide), if_pos rfl]
  · unfold fn_125
    rw [k2, if_neg (by decide), if_neg (by decide), if_neg (by decide), if_pos rfl, n2, b2]
theorem ex_102 (h : st_ok B (R 322) (st_v C 1)) (hj : j < 20) (k1 : C 49 j = 102) (n1 : C 51 j = Int32.ofNat v) (k2 : R 321 10 = 102) (n2 : R 328 0 = Int32.ofNat v) (hv : v ≤ 11) : ex_ok B j C R := by
  obtain ⟨m, hm, e1, e2⟩ := ok_m2 h
  have a49 : rw_at (C 49) 20 (Int32.ofNat j) = 102 := by rw [rw_at_nI hj (by omega), k1]
  have a51 : rw_at (C 51) 20 (Int32.ofNat j) = Int32.ofNat v := by rw [rw_at_nI hj (by omega), n1]
  have c36 : fn_36 (Int32.ofNat v) C = some (b01 (rng (Int32.ofNat v) 0 (m - 1)), C) := fn_36_b e2 hm
  have c44 : fn_44 (Int32.ofNat v) R = some (b01 (rng (Int32.ofNat v) 0 (m - 1)), R) := fn_44_b e1 hm
  have r1 : rng (Int32.ofNat v) 0 (m - 1) ↔ v < m := by rw [rng_n (by omega)]; omega
  rw [b01_congr r1] at c36 c44
  unfold ex_ok
  by_cases q : v < m
  · right
    have s0 := ok_side (mix_ok h) (g := v) (by omega)
    have q0 : mixD C R 322 (11 + 7 * v) = mixD C R 10 v := ok_g (mix_ok h) v 0 (by omega) (by omega)
    have q6 : mixD C R 322 (11 + 7 * v + 6) = mixD C R 14 v := ok_g (mix_ok h) v 6 (by omega) (by omega)
    rw [mix_r, mix_c (by omega)] at q0 q6
    rw [mix_r, q0] at s0
    refine ⟨am_upd (am_upd C 14 v (C 14 v + 1)) 10 v (1 - C 10 v), 1 - C 10 v, am_upd (am_upd R 322 (11 + 7 * v) (1 - C 10 v)) 322 (11 + 7 * v + 6) (C 14 v + 1), ?_, fun a ha => ?_, ?_, ?_, fun a ha => ?_, ?_⟩
    · unfold fn_135 fn_130 fn_133 fn_131
      dsimp only
      rw [a49, a51, if_neg (by decide), if_neg (by decide), if_neg (by decide), if_neg (by decide), c36, b01_t q]
      dsimp only
      rw [if_pos (show ay_isb 1 = true from rfl)]
      dsimp only
      rw [if_pos (by decide), a49, if_neg (by decide), if_neg (by decide), if_neg (by decide), if_neg (by decide), fn_56_n (by omega)]
    · rw [u_row (by omega), u_row (by omega)]
    · unfold fn_124
      rw [k2, if_neg (by decide), if_neg (by decide), if_neg (by decide), if_neg (by decide), n2, c44, b01_t q]
      rfl
    · unfold fn_125
      rw [k2, if_neg (by decide), if_neg (by decide), if_neg (by decide), if_neg (by decide), n2, fn_59_n (by omega), q6, show 11 + 7 * v + 0 = 11 + 7 * v by omega, q0]
    · rw [u_row ha, u_row ha]
    · have sg := st_gset (m' := m) (g := v) (w := 6) (v := C 14 v + 1) (by rw [up_ne (by omega)]; exact e1) hm (by omega) (by omega) (fun h => by omega) (fun h => by omega) (fun h => by omega) (st_gset (m' := m) (g := v) (w := 0) (v := 1 - C 10 v) e1 hm (by omega) (by omega) (fun _ => one_sub s0) (fun h => by omega) (fun h => by omega) h)
      refine st_mono (by omega) (st_congr (fun j' _ => ?_) (fun o j' _ => ?_) sg)
      · rw [up_row, up_row]
        rfl
      · rw [st_v_up (r' := 10) (r := 9) rfl, st_v_up (r' := 14) (r := 13) rfl]
        show am_upd (am_upd (st_v C 1) 13 v _) 9 v _ o j' = am_upd (am_upd (st_v C 1) 9 v _) 13 v _ o j'
        by_cases z1 : o = 9
        · rw [z1, u_row (a := 13) (a' := 9) (by omega)]
          by_cases z2 : j' = v
          · rw [z2, u_self, u_self]
          · rw [u_ne (fun y => z2 y.2), u_ne (fun y => z2 y.2), u_ne (fun y => z2 y.2)]
        · rw [u_row (a := 9) z1]
          by_cases z2 : o = 13 ∧ j' = v
          · rw [z2.1, z2.2, u_self, u_self]
          · rw [u_ne z2, u_ne z2, u_row z1]
  · left
    refine ⟨?_, ?_⟩
    · unfold fn_135 fn_130 fn_133 fn_131
      dsimp only
      rw [a49, a51, if_neg (by decide), if_neg (by decide), if_neg (by decide), if_neg (by decide), c36, b01_f q]
      rfl
    · unfold fn_124
      rw [k2, if_neg (by decide), if_neg (by decide), if_neg (by decide), if_neg (by decide), n2, c44, b01_f q]
      rfl
theorem ex_all {k : Nat} (h : st_ok B (R 322) (st_v C 1)) (hj : j < 20) (k1 : C 49 j = Int32.ofNat k) (n1 : C 51 j = Int32.ofNat v) (xt : k = 101 → C 53 j = Int32.ofNat x ∧ C 55 j = Int32.ofNat t) (k2 : R 321 10 = Int32.ofNat k) (n2 : R 328 0 = Int32.ofNat v) (xt2 : k = 101 → R 328 1 = Int32.ofNat x ∧ R 328 2 = Int32.ofNat t) (ok : okd k v x t) : ex_ok B j C R := by
  rcases ok with ⟨rfl, a, b⟩ | ⟨rfl, a, b, c⟩ | ⟨rfl, a⟩ | ⟨rfl, a⟩ | ⟨rfl, a, b⟩
  · exact ex_100 h hj k1 n1 k2 n2 ⟨a, b⟩
  · exact ex_101 h hj k1 n1 (xt rfl).1 (xt rfl).2 k2 n2 (xt2 rfl).1 (xt2 rfl).2 a b c
  · exact ex_102 h hj k1 n1 k2 n2 a
  · exact ex_103 h hj k1 n1 k2 n2 a
  · exact ex_116 h hj k1 n1 k2 n2 b
end VX
