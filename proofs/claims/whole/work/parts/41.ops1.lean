
/-! the live state in the tables -/
theorem fn_29_0 {D : am_DD} : fn_29 0 D = some (1, am_upd D 321 7 0) := rfl
theorem fn_29_1 {D : am_DD} : fn_29 1 D = some (0, am_upd D 321 7 1) := rfl
theorem fn_29_2 {D : am_DD} : fn_29 2 D = some (0, am_upd D 321 7 2) := rfl
theorem st_v_up {D : am_DD} {r' r c : Nat} {v : Int32} (h : r' = 1 + r) : st_v (am_upd D r' c v) 1 = am_upd (st_v D 1) r c v := by
  subst h
  funext o j
  unfold st_v
  by_cases z : o = r ∧ j = c
  · rw [z.1, z.2, u_self, u_self]
  · rw [u_ne (fun q => z ⟨by omega, q.2⟩), u_ne z]
theorem ok_m {B : Nat} {D : am_DD} (h : st_ok B (D 322) (st_v D 1)) : ∃ m, m ≤ 12 ∧ D 322 1 = Int32.ofNat m ∧ D 8 0 = Int32.ofNat m := by
  obtain ⟨m, n, st, kp, o, hb, nb, r, e1, e2, g, b, rs⟩ := h
  have h1 : D 322 1 = D 8 0 := r.1 1 (by omega)
  exact ⟨m, g.2.1, g.1, h1.symm.trans g.1⟩
theorem ok_i {B : Nat} {D : am_DD} (h : st_ok B (D 322) (st_v D 1)) : ∀ i, i < 11 → D 322 i = D (1 + so i) (sj i) := h.elim fun _ h => h.elim fun _ h => h.elim fun _ h => h.elim fun _ h => h.elim fun _ h => h.elim fun _ h => h.elim fun _ h => h.1.1
theorem ok_g {B : Nat} {D : am_DD} (h : st_ok B (D 322) (st_v D 1)) : ∀ g w, g < 12 → w < 7 → D 322 (11 + 7 * g + w) = D (1 + go w) (gj w g) := h.elim fun _ h => h.elim fun _ h => h.elim fun _ h => h.elim fun _ h => h.elim fun _ h => h.elim fun _ h => h.elim fun _ h => h.1.2.1
/-- out of two runs: the end -/
theorem ok_fin {k : Nat} {D1 D4 D5 : am_DD} {y : Int32} {s' : Nat → Int32} {E' : Nat → Nat → Int32} (h : st_ok (1000 * k) s' E') (c2 : ∀ a j, ¬ a = 323 → ¬ (a = 321 ∧ j = 2) → D4 a j = am_upd (am_upd D1 329 0 y) 321 7 0 a j) (d2 : ∀ a j, in_km a j → D5 a j = D4 a j) (hs : ∀ j, j < 405 → D5 322 j = s' j) (hE : st_v D1 1 = E') : st_ok (1000 * (k + 1)) (D5 322) (st_v D5 1) := by
  refine st_mono (by omega) (st_congr hs (fun o j ho => ?_) h)
  have := st_v_hit ho
  rw [← hE]
  unfold st_v
  rw [d2 _ j ⟨by omega, by omega, by omega, by omega⟩, c2 _ j (by omega) (by omega), u_ne (by omega), u_ne (by omega)]
theorem tx_fin {k : Nat} {D Dh D1 D4 D5 : am_DD} {y : Int32} (hi : in_ok k D) (hh : ∀ a, ¬ hs_cls a → a ≠ 252 → Dh a = D a) (b2 : ∀ a j, in_kc a j → D1 a j = Dh a j) (c2 : ∀ a j, ¬ a = 323 → ¬ (a = 321 ∧ j = 2) → D4 a j = am_upd (am_upd D1 329 0 y) 321 7 0 a j) (d2 : ∀ a j, in_km a j → D5 a j = D4 a j) (e1 : D1 45 0 = Dh 45 0) (e2 : ∀ j, D1 47 j = Dh 47 j) (e3 : D5 321 6 = D4 321 6) : tx_ok D5 := by
  obtain ⟨len, t1, t2, t3, t4⟩ := hi.2.2.2
  have q : ∀ a, (a = 45 ∨ a = 47 ∨ a = 321 ∨ a = 326) → Dh a = D a := fun a ha => hh a (by unfold hs_cls; omega) (by omega)
  refine ⟨len, t1, ?_, ?_, fun j hj => ?_⟩
  · rw [d2 _ _ ⟨by omega, by omega, by omega, by omega⟩, c2 _ _ (by omega) (by omega), u_ne (by omega), u_ne (by omega), e1, q 45 (by omega), t2]
  · rw [e3, c2 _ _ (by omega) (by omega), u_ne (by omega), u_ne (by omega), b2 321 6 ⟨by omega, by omega, by decide⟩, q 321 (by omega), t3]
  · have h47 : D5 47 j = D 47 j := by rw [d2 _ _ ⟨by omega, by omega, by omega, by omega⟩, c2 _ _ (by omega) (by omega), u_ne (by omega), u_ne (by omega), e2, q 47 (by omega)]
    have h326 : D5 326 j = D 326 j := by rw [d2 _ _ ⟨by omega, by omega, by omega, by omega⟩, c2 _ _ (by omega) (by omega), u_ne (by omega), u_ne (by omega), b2 326 j ⟨by omega, by omega, by simp [in_scr]⟩, q 326 (by omega)]
    rw [h47, h326]
    exact t4 j hj
/-- the reference's cells of a gate -/
theorem gx {g w : Nat} : ((11 : Int32) + (7 * Int32.ofNat g)) + Int32.ofNat w = Int32.ofNat (11 + 7 * g + w) := by
  have h1 : (7 : Int32) * Int32.ofNat g = Int32.ofNat (7 * g) := n_mul 7 g
  have h2 : (11 : Int32) + Int32.ofNat (7 * g) = Int32.ofNat (11 + 7 * g) := n_add 11 (7 * g)
  rw [h1, h2, n_add]
theorem fn_32_n {g w : Nat} {v : Int32} {D : am_DD} (h : 11 + 7 * g + w < 405) : fn_32 (Int32.ofNat g) (Int32.ofNat w) v D = some (0, am_upd D 322 (11 + 7 * g + w) v) := by
  unfold fn_32
  rw [gx, if_neg (n_bad (by decide) h), c_ofNat (by omega)]
theorem fn_48_n {g w : Nat} {D : am_DD} (h : 11 + 7 * g + w < 405) : fn_48 (Int32.ofNat g) (Int32.ofNat w) D = some (D 322 (11 + 7 * g + w), D) := by
  unfold fn_48
  rw [gx, if_neg (n_bad (by decide) h), c_ofNat (by omega)]
/-- the class's cells of a gate's targets -/
theorem gx2 {g e : Nat} : ((2 : Int32) * Int32.ofNat g) + Int32.ofNat e = Int32.ofNat (2 * g + e) := by
  have h1 : (2 : Int32) * Int32.ofNat g = Int32.ofNat (2 * g) := n_mul 2 g
  rw [h1, n_add]
/-! a gate is laid -/
theorem fn_33_lp {m : Nat} {a : Int32} (hm : m < 12) : ∀ (c w n : Nat) (D : am_DD), w + c = 7 → c < n → ∃ D', fn_33_9 n a (Int32.ofNat m) (Int32.ofNat w) D = some (Int32.ofNat m, D') ∧ (∀ q j, q ≠ 322 → D' q j = D q j) ∧ D' 322 1 = D 322 1 + 1 ∧ D' 322 (12 + 7 * m) = a ∧ D' 322 (13 + 7 * m) = 20 ∧ D' 322 (14 + 7 * m) = 20 ∧ ∀ j, j ≠ 1 → j ≠ 12 + 7 * m → j ≠ 13 + 7 * m → j ≠ 14 + 7 * m → D' 322 j = if 11 + 7 * m + w ≤ j ∧ j < 18 + 7 * m then 0 else D 322 j := by
  intro c
  induction c with
  | zero =>
    intro w n D hw hn
    obtain ⟨n, rfl⟩ : ∃ n', n = n' + 1 := ⟨n - 1, by omega⟩
    have h7 : w = 7 := by omega
    subst h7
    rw [fn_33_9, if_pos (by decide)]
    have f1 : ∀ (v : Int32) (D : am_DD), fn_32 (Int32.ofNat m) 1 v D = _ := fun v D => fn_32_n (g := m) (w := 1) (v := v) (D := D) (by omega)
    have f2 : ∀ (v : Int32) (D : am_DD), fn_32 (Int32.ofNat m) 2 v D = _ := fun v D => fn_32_n (g := m) (w := 2) (v := v) (D := D) (by omega)
    have f3 : ∀ (v : Int32) (D : am_DD), fn_32 (Int32.ofNat m) 3 v D = _ := fun v D => fn_32_n (g := m) (w := 3) (v := v) (D := D) (by omega)
    simp only [f1, f2, f3]
    refine ⟨_, rfl, fun q j hq => ?_, ?_, ?_, ?_, ?_, fun j h1 h2 h3 h4 => ?_⟩
    · rw [u_row hq, u_row hq, u_row hq, u_row hq]
    · rw [u_self, u_ne (by omega), u_ne (by omega), u_ne (by omega)]
    · rw [u_ne (by omega), u_ne (by omega), u_ne (by omega), show 12 + 7 * m = 11 + 7 * m + 1 by omega, u_self]
    · rw [u_ne (by omega), u_ne (by omega), show 13 + 7 * m = 11 + 7 * m + 2 by omega, u_self]
    · rw [u_ne (by omega), show 14 + 7 * m = 11 + 7 * m + 3 by omega, u_self]
    · rw [u_ne (by omega), u_ne (by omega), u_ne (by omega), u_ne (by omega), if_neg (by omega)]
  | succ c ih =>
    intro w n D hw hn
    obtain ⟨n, rfl⟩ : ∃ n', n = n' + 1 := ⟨n - 1, by omega⟩
    have h7 : ¬ (7 : Int32) ≤ Int32.ofNat w := fun h => by
      have := (n_le (a := 7) (by omega) (by omega)).mp h
      omega
    rw [fn_33_9, if_neg h7, fn_32_n (by omega)]
    dsimp only
    rw [nI_up]
    obtain ⟨D', i1, i2, i3, i4, i5, i6, i7⟩ := ih (w + 1) n (am_upd D 322 (11 + 7 * m + w) 0) (by omega) (by omega)
    refine ⟨D', i1, fun q j hq => by rw [i2 q j hq, u_row hq], by rw [i3, u_ne (by omega)], i4, i5, i6, fun j h1 h2 h3 h4 => ?_⟩
    rw [i7 j h1 h2 h3 h4]
    by_cases hj : j = 11 + 7 * m + w
    · rw [if_neg (by omega), if_pos (by omega), hj, u_self]
    · rw [u_ne (by omega)]
      by_cases h9 : 11 + 7 * m + w ≤ j ∧ j < 18 + 7 * m
      · rw [if_pos (by omega), if_pos h9]
      · rw [if_neg (by omega), if_neg h9]
theorem st_addg {B m' p : Nat} {s : Nat → Int32} {E : Nat → Nat → Int32} (hm : s 1 = Int32.ofNat m') (hm2 : m' < 12) (hp : p ≤ 30) (h : st_ok B s E) :
    st_ok B (up (up (up (up s 1 (Int32.ofNat (m' + 1))) (11 + 7 * m' + 1) (Int32.ofNat p)) (11 + 7 * m' + 2) 20) (11 + 7 * m' + 3) 20) (am_upd (am_upd (am_upd (am_upd E 7 0 (Int32.ofNat (m' + 1))) 11 m' (Int32.ofNat p)) 15 (2 * m') 20) 15 (2 * m' + 1) 20) ∧ s (11 + 7 * m') = 0 ∧ s (15 + 7 * m') = 0 ∧ s (16 + 7 * m') = 0 ∧ s (17 + 7 * m') = 0 := by
  obtain ⟨m, n, st, kp, o, hb, nb, r, e1, e2, gs, b, rs⟩ := h
  have hk : kp ≤ 60 := rs.2.2.2.2.2.1
  have hmm : m' = m := n_inj (by omega) (by have := gs.2.1; omega) (hm.symm.trans gs.1)
  subst hmm
  have hr := rl_lv (i0 := 11 + 7 * m' + 3) 20 (by omega) (rl_lv (i0 := 11 + 7 * m' + 2) 20 (by omega) (rl_lv (i0 := 11 + 7 * m' + 1) (Int32.ofNat p) (by omega) (rl_lv (i0 := 1) (Int32.ofNat (m' + 1)) (by omega) ((rel_rl (st_n40 b) hk).mp r))))
  rw [lc_g o (by omega) (by omega), lc_g o (by omega) (by omega), lc_g o (by omega) (by omega), lc_a o (by omega)] at hr
  obtain ⟨g1, g2, g3, g4, g5, g6⟩ := gs
  refine ⟨⟨m' + 1, n, st, kp, o, hb, nb, (rel_rl (st_n40 b) hk).mpr hr, by rw [u_ne (by omega), u_ne (by omega), u_ne (by omega), u_ne (by omega)]; exact e1, e2, ⟨?_, by omega, fun g' hg' => ?_, fun g' hg' => ?_, fun g' e hg' he => ?_, fun g' h3 h4 => ?_⟩, ?_, ?_⟩, g6 m' (by omega) hm2⟩
  · rw [up_ne (by omega), up_ne (by omega), up_ne (by omega), up_self]
  · rw [up_ne (by omega), up_ne (by omega), up_ne (by omega), up_ne (by omega)]; exact g3 g' hg'
  · by_cases z : g' = m'
    · subst z
      rw [up_ne (by omega), up_ne (by omega), show 12 + 7 * g' = 11 + 7 * g' + 1 by omega, up_self]
      exact ⟨p, hp, rfl⟩
    · rw [up_ne (by omega), up_ne (by omega), up_ne (by omega), up_ne (by omega)]; exact g4 g' (by omega)
  · by_cases z : g' = m'
    · subst z
      refine ⟨20, ?_, Or.inr ⟨by omega, by omega⟩⟩
      by_cases he0 : e = 0
      · subst he0
        rw [up_ne (by omega), show 13 + 7 * g' + 0 = 11 + 7 * g' + 2 by omega, up_self]; rfl
      · rw [show 13 + 7 * g' + e = 11 + 7 * g' + 3 by omega, up_self]; rfl
    · rw [up_ne (by omega), up_ne (by omega), up_ne (by omega), up_ne (by omega)]
      obtain ⟨t, t1, t2⟩ := g5 g' e (by omega) he
      exact ⟨t, t1, by omega⟩
  · rw [up_ne (by omega), up_ne (by omega), up_ne (by omega), up_ne (by omega), up_ne (by omega), up_ne (by omega), up_ne (by omega), up_ne (by omega), up_ne (by omega), up_ne (by omega), up_ne (by omega), up_ne (by omega), up_ne (by omega), up_ne (by omega), up_ne (by omega), up_ne (by omega)]; exact g6 g' (by omega) h4
  · have b' := st_balls_congr (s' := up (up (up (up s 1 (Int32.ofNat (m' + 1))) (11 + 7 * m' + 1) (Int32.ofNat p)) (11 + 7 * m' + 2) 20) (11 + 7 * m' + 3) 20) (by rw [up_ne (by omega), up_ne (by omega), up_ne (by omega), up_ne (by omega)]) (by rw [up_ne (by omega), up_ne (by omega), up_ne (by omega), up_ne (by omega)]) (fun _ _ _ => by rw [up_ne (by omega), up_ne (by omega), up_ne (by omega), up_ne (by omega)]) b
    obtain ⟨b1, b2, b3, b4, b5⟩ := b'
    refine ⟨b1, b2, b3, b4, fun r hr => ?_⟩
    obtain ⟨g, z1, z2⟩ := b5 r hr
    exact ⟨g, by omega, z2⟩
  · refine st_rest_congr ?_ ?_ ?_ ?_ ?_ (fun _ _ _ => ?_) rs <;> rw [up_ne (by omega), up_ne (by omega), up_ne (by omega), up_ne (by omega)]
set_option maxHeartbeats 1000000 in
theorem op_0 {k : Nat} {D : am_DD} (a : Int32) (hi : in_ok k D) : in_wr (hmf 1 2 0) k (fn_24 a D) (fn_34 a) := by
  obtain ⟨m, hm, e1, e2⟩ := ok_m hi.1
  by_cases h1 : rng a 0 30
  · by_cases h2 : m < 12
    · obtain ⟨p, rfl, hp, -⟩ := rng_nat h1
      obtain ⟨Dh, y, D1, D4, D5, u1, u2, u3, u4, u5, u6, u7, u8⟩ := in_und hi (fC := fn_23 (Int32.ofNat p)) (fM := fn_33 (Int32.ofNat p)) (by
        intro Dh hh hok
        have c1 : Dh 8 0 = Int32.ofNat m := by rw [hh 8 (by unfold hs_cls; omega) (by omega), e2]
        have c3 : Dh 322 1 = Int32.ofNat m := by rw [hh 322 (by unfold hs_cls; omega) (by omega), e1]
        have t0 : (2 : Int32) * Int32.ofNat m = Int32.ofNat (2 * m) := n_mul 2 m
        have t1 : Int32.ofNat (2 * m) + 1 = Int32.ofNat (2 * m + 1) := nI_up _
        refine ⟨Int32.ofNat m, am_upd (am_upd (am_upd (am_upd Dh 8 0 (Int32.ofNat (m + 1))) 12 m (Int32.ofNat p)) 16 (2 * m) 20) 16 (2 * m + 1) 20, ?_, ?_, ?_⟩
        · unfold fn_23
          rw [c1, t0, t1, rw_put_nI (by omega) (by decide), rw_put_nI (by omega) (by decide), rw_put_nI (by omega) (by decide), nI_up]
        · intro a j ⟨h50, _, _⟩
          rw [u_ne (by omega), u_ne (by omega), u_ne (by omega), u_ne (by omega)]
        · intro D4 c2
          have c22 : ∀ j, D4 322 j = Dh 322 j := fun j => by rw [c2 _ _ (by omega) (by omega), u_ne (by omega), u_ne (by omega), u_ne (by omega), u_ne (by omega), u_ne (by omega), u_ne (by omega)]
          obtain ⟨D5, i1, i2, i3, i4, i5, i6, i7⟩ := fn_33_lp (m := m) (a := Int32.ofNat p) h2 7 0 100000 D4 (by omega) (by omega)
          obtain ⟨sg, z0, z1, z2, z3⟩ := st_addg (m' := m) (p := p) c3 h2 (by omega) hok
          have d2 : ∀ a j, in_km a j → D5 a j = D4 a j := fun a j h => i2 a j h.1
          refine ⟨D5, ?_, d2, ?_, ?_⟩
          · unfold fn_33 am_F
            rw [c22, c3]
            exact i1
          · refine ok_fin sg c2 d2 (fun j hj => ?_) ?_
            · by_cases j1 : j = 11 + 7 * m + 3
              · rw [j1, up_self, show 11 + 7 * m + 3 = 14 + 7 * m by omega, i6]
              · rw [up_ne j1]
                by_cases j2 : j = 11 + 7 * m + 2
                · rw [j2, up_self, show 11 + 7 * m + 2 = 13 + 7 * m by omega, i5]
                · rw [up_ne j2]
                  by_cases j3 : j = 11 + 7 * m + 1
                  · rw [j3, up_self, show 11 + 7 * m + 1 = 12 + 7 * m by omega, i4]
                  · rw [up_ne j3]
                    by_cases j4 : j = 1
                    · rw [j4, up_self, i3, c22, c3, nI_up]
                    · rw [up_ne j4, i7 j j4 (by omega) (by omega) (by omega), c22]
                      by_cases j5 : 11 + 7 * m + 0 ≤ j ∧ j < 18 + 7 * m
                      · rw [if_pos j5]
                        by_cases q0 : j = 11 + 7 * m
                        · rw [q0, z0]
                        · by_cases q1 : j = 15 + 7 * m
                          · rw [q1, z1]
                          · by_cases q2 : j = 16 + 7 * m
                            · rw [q2, z2]
                            · rw [show j = 17 + 7 * m by omega, z3]
                      · rw [if_neg j5]
            · rw [st_v_up (r' := 16) (r := 15) rfl, st_v_up (r' := 16) (r := 15) rfl, st_v_up (r' := 12) (r := 11) rfl, st_v_up (r' := 8) (r := 7) rfl]
          · refine tx_fin hi hh ?_ c2 d2 ?_ ?_ ?_
            · intro a j ⟨h50, _, _⟩
              rw [u_ne (by omega), u_ne (by omega), u_ne (by omega), u_ne (by omega)]
            · rw [u_ne (by omega), u_ne (by omega), u_ne (by omega), u_ne (by omega)]
            · intro j
              rw [u_ne (by omega), u_ne (by omega), u_ne (by omega), u_ne (by omega)]
            · exact i2 _ _ (by omega))
      refine ⟨y, 0, D1, ?_, Or.inl ⟨rfl, D5, ?_, u5, u6, u7⟩⟩
      · unfold fn_24
        simp only [fn_13_b, b01_t h1, fn_14_b e2 hm, b01_t h2, i10, not_false_eq_true, if_true, u1, u2]
      · have e3 : am_upd D1 329 0 y 322 1 = Int32.ofNat m := by rw [u_ne (by omega), u8 322 1 (by omega) (by decide), e1]
        unfold fn_34
        rw [fn_28_b e3 hm, if_pos h1, if_pos h2]
        simp only [fn_29_0, i10, not_false_eq_true, if_true, u3, u4]
    · refine in_no (kk := 2) (y := 0) (b := 0) hi ?_ (by omega) (by decide) ?_
      · unfold fn_24
        simp only [fn_13_b, b01_t h1, fn_14_b e2 hm, b01_f h2, i10, not_false_eq_true, not_true, if_true, if_false]
      · unfold fn_34
        rw [fn_28_b e1 hm, if_pos h1, if_neg h2]
        simp only [fn_29_2, not_true, if_false]
        rfl
  · refine in_no (kk := 1) (y := 0) (b := 0) hi ?_ (by omega) (by decide) ?_
    · unfold fn_24
      simp only [fn_13_b, b01_f h1, not_true, if_false]
    · unfold fn_34
      rw [fn_28_b e1 hm, if_neg h1]
      simp only [fn_29_1, not_true, if_false]
      rfl
