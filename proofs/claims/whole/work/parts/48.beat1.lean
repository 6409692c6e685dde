/-! what a beat does to a state -/
theorem st_beat {B : Nat} {s : Nat → Int32} {E : Nat → Nat → Int32} (h : st_ok B s E) : st_ok (B + 1) (up s 0 (s 0 + 1)) (am_upd E 0 0 (s 0 + 1)) := by
  obtain ⟨m, n, st, kp, o, hb, nb, r, e1, e2, gs, b, rs⟩ := h
  have hk : kp ≤ 60 := rs.2.2.2.2.2.1
  have hr := rl_lv (i0 := 0) (s 0 + 1) (by omega) ((rel_rl (st_n40 b) hk).mp r)
  rw [lc_a o (by omega)] at hr
  refine ⟨m, n, st, kp, o, hb, nb, (rel_rl (st_n40 b) hk).mpr hr, by rw [u_ne (by omega)]; exact e1, e2, st_gates_congr (up_ne (by omega)) (fun _ _ _ => up_ne (by omega)) gs, st_balls_congr (up_ne (by omega)) (up_ne (by omega)) (fun _ _ _ => up_ne (by omega)) b, ?_⟩
  obtain ⟨⟨bt, z1, z2, z3⟩, ⟨w, w1, w2⟩, ⟨gp, p1, p2, p3⟩, ⟨lvl, l1, l2, l3⟩, t1, t2, t3, t4, t5⟩ := rs
  exact ⟨⟨bt + 1, by omega, by rw [up_self, z2, nI_up], fun q hq => by have := z3 q hq; omega⟩, ⟨w, w1, by rw [up_ne (by omega)]; exact w2⟩, ⟨gp, p1, p2, by rw [up_ne (by omega)]; exact p3⟩, ⟨lvl, l1, l2, by rw [up_ne (by omega)]; exact l3⟩, by rw [up_ne (by omega)]; exact t1, t2, fun q hq => by rw [up_ne (by omega)]; exact t3 q hq, t4, fun q hq => by rw [up_ne (by omega)]; exact t5 q hq⟩
/-- a note is written down -/
theorem st_note {B m' g kp' o' nk off : Nat} {s s' : Nat → Int32} {E E' : Nat → Nat → Int32} (hm : s 1 = Int32.ofNat m') (hm2 : m' ≤ 12) (hg : g < m') (hk : s 10 = Int32.ofNat kp') (hk2 : kp' ≤ 60) (ho : E 25 0 = Int32.ofNat o') (ho2 : o' < 60) (hcase : (kp' < 60 ∧ nk = kp' + 1 ∧ off = 0) ∨ (kp' = 60 ∧ nk = 60 ∧ off = 1))
    (c1 : ∀ j, j < 225 → j ≠ 9 → j ≠ 10 → s' j = s j) (c2 : s' 10 = Int32.ofNat nk) (c3 : ∀ q w, q + 1 < nk → w < 3 → s' (225 + 3 * q + w) = s (225 + 3 * (q + off) + w)) (c4 : s' (225 + 3 * (nk - 1) + 0) = s 0) (c5 : s' (225 + 3 * (nk - 1) + 1) = Int32.ofNat g) (c6 : s' (225 + 3 * (nk - 1) + 2) = s (12 + 7 * g)) (c7 : s' 9 = s 9 + 1)
    (d1 : ∀ o j, o < 25 → E' o j = E o j) (d2 : E' 25 0 = Int32.ofNat ((o' + off) % 60)) (d3 : E' 25 1 = Int32.ofNat nk) (d4 : E' 25 2 = E 25 2 + 1) (d5 : ∀ w j, w < 3 → j ≠ (o' + kp') % 60 → E' (27 + 2 * w) j = E (27 + 2 * w) j) (d6 : E' 27 ((o' + kp') % 60) = s 0) (d7 : E' 29 ((o' + kp') % 60) = Int32.ofNat g) (d8 : E' 31 ((o' + kp') % 60) = s (12 + 7 * g)) (h : st_ok B s E) : st_ok B s' E' := by
  obtain ⟨m, n, st, kp, o, hb, nb, r, e1, e2, gs, b, rs⟩ := h
  have hkp : kp' = kp := n_inj (by omega) (by have := rs.2.2.2.2.2.1; omega) (hk.symm.trans rs.2.2.2.2.1)
  have hoo : o' = o := n_inj (by omega) (by omega) (ho.symm.trans e1)
  subst hkp
  subst hoo
  have b40 := st_n40 b
  obtain ⟨r1, r2, r3, r4, r5⟩ := r
  obtain ⟨⟨bt, z1, z2, z3⟩, ⟨w, w1, w2⟩, ⟨gp, p1, p2, p3⟩, ⟨lvl, l1, l2, l3⟩, t1, t2, t3, t4, t5⟩ := rs
  have hmm : m' = m := n_inj (by omega) (by have := gs.2.1; omega) (hm.symm.trans gs.1)
  subst hmm
  obtain ⟨p, hp, hps⟩ := gs.2.2.2.1 g hg
  refine ⟨m', n, st, nk, (o' + off) % 60, hb, fun q => if q + 1 < nk then nb (q + off) else bt, ⟨fun i hi => ?_, fun g w hg hw => ?_, fun b w hb hw => ?_, fun r w hr hw => ?_, fun q w hq hw => ?_⟩, d2, Nat.mod_lt _ (by decide), st_gates_congr (c1 _ (by omega) (by omega) (by omega)) (fun _ _ _ => c1 _ (by omega) (by omega) (by omega)) gs, st_balls_congr (c1 _ (by omega) (by omega) (by omega)) (c1 _ (by omega) (by omega) (by omega)) (fun _ _ _ => c1 _ (by omega) (by omega) (by omega)) b, ⟨bt, z1, ?_, fun q hq => ?_⟩, ⟨w, w1, ?_⟩, ⟨gp, p1, p2, ?_⟩, ⟨lvl, l1, l2, ?_⟩, c2, by omega, fun q hq => ?_, fun q q' hqq hq' => ?_, fun q hq => ?_⟩
  · by_cases i9 : i = 9
    · subst i9
      have q9 : s 9 = E 25 2 := r1 9 (by omega)
      show s' 9 = E' 25 2
      rw [c7, d4, q9]
    · by_cases i10 : i = 10
      · subst i10
        show s' 10 = E' 25 1
        rw [c2, d3]
      · have hso : so i < 25 := by
          have : ∀ i, i < 11 → i ≠ 9 → i ≠ 10 → so i < 25 := by decide
          exact this i hi i9 i10
        rw [c1 i (by omega) i9 i10, d1 _ _ hso, r1 i hi]
  · have hgo : go w < 25 := by
      have : ∀ w, w < 7 → go w < 25 := by decide
      exact this w hw
    rw [c1 _ (by omega) (by omega) (by omega), d1 _ _ hgo, r2 g w hg hw]
  · rw [c1 _ (by omega) (by omega) (by omega), d1 _ _ (by omega), r3 b w hb hw]
  · rw [c1 _ (by omega) (by omega) (by omega), d1 _ _ (by omega), r4 r w hr hw]
  · by_cases hq2 : q + 1 < nk
    · rw [c3 q w hq2 hw, d5 w _ hw (by omega), r5 (q + off) w (by omega) hw, show (o' + (q + off)) % 60 = ((o' + off) % 60 + q) % 60 by omega]
    · have hqn : q = nk - 1 := by omega
      subst hqn
      have hP : ((o' + off) % 60 + (nk - 1)) % 60 = (o' + kp') % 60 := by omega
      rw [hP]
      obtain rfl | rfl | rfl : w = 0 ∨ w = 1 ∨ w = 2 := by omega
      · rw [c4, d6]
      · rw [c5, d7]
      · rw [c6, d8]
  · rw [c1 _ (by omega) (by omega) (by omega)]; exact z2
  · dsimp only
    split
    · exact z3 _ (by omega)
    · omega
  · rw [c1 _ (by omega) (by omega) (by omega)]; exact w2
  · rw [c1 _ (by omega) (by omega) (by omega)]; exact p3
  · rw [c1 _ (by omega) (by omega) (by omega)]; exact l3
  · dsimp only
    by_cases hq2 : q + 1 < nk
    · rw [if_pos hq2, ← t3 (q + off) (by omega)]
      exact c3 q 0 hq2 (by omega)
    · rw [if_neg hq2, show q = nk - 1 by omega, ← z2]
      exact c4
  · dsimp only
    by_cases h1 : q' + 1 < nk
    · rw [if_pos (by omega), if_pos h1]
      exact t4 _ _ (by omega) (by omega)
    · rw [if_neg h1]
      split
      · exact z3 _ (by omega)
      · omega
  · by_cases hq2 : q + 1 < nk
    · obtain ⟨p', x1, x2⟩ := t5 (q + off) (by omega)
      refine ⟨p', x1, ?_⟩
      rw [← x2]
      have := c3 q 2 hq2 (by omega)
      rw [show 225 + 3 * q + 2 = 227 + 3 * q by omega, show 225 + 3 * (q + off) + 2 = 227 + 3 * (q + off) by omega] at this
      exact this
    · refine ⟨p, hp, ?_⟩
      rw [← hps, ← c6, show 225 + 3 * (nk - 1) + 2 = 227 + 3 * q by omega]
/-- a ball moves to a place among the gates -/
theorem st_move {B m' n' w t : Nat} {s : Nat → Int32} {E : Nat → Nat → Int32} (hm : s 1 = Int32.ofNat m') (hm2 : m' ≤ 12) (hn : s 3 = Int32.ofNat n') (hn2 : n' ≤ 40) (hw : w < n') (ht : t < m') (h : st_ok B s E) : st_ok B (up (up s (105 + 3 * w + 0) (Int32.ofNat t)) (105 + 3 * w + 2) (s (105 + 3 * w + 2) + 1)) (am_upd (am_upd E 20 w (Int32.ofNat t)) 24 w (s (105 + 3 * w + 2) + 1)) := by
  obtain ⟨m, n, st, kp, o, hb, nb, r, e1, e2, gs, b, rs⟩ := h
  have hk : kp ≤ 60 := rs.2.2.2.2.2.1
  have hmm : m' = m := n_inj (by omega) (by have := gs.2.1; omega) (hm.symm.trans gs.1)
  have hnn : n' = n := n_inj (by omega) (by have := st_n40 b; omega) (hn.symm.trans b.1)
  subst hmm
  subst hnn
  have hr := rl_lv (i0 := 105 + 3 * w + 2) (s (105 + 3 * w + 2) + 1) (by omega) (rl_lv (i0 := 105 + 3 * w + 0) (Int32.ofNat t) (by omega) ((rel_rl (st_n40 b) hk).mp r))
  rw [lc_r o (by omega) (by omega), lc_r o (by omega) (by omega)] at hr
  refine ⟨m', n', st, kp, o, hb, nb, (rel_rl (st_n40 b) hk).mpr hr, by rw [u_ne (by omega), u_ne (by omega)]; exact e1, e2, st_gates_congr (by rw [up_ne (by omega), up_ne (by omega)]) (fun _ _ _ => by rw [up_ne (by omega), up_ne (by omega)]) gs, ?_, ?_⟩
  · obtain ⟨b1, b2, b3, b4, b5⟩ := b
    refine ⟨by rw [up_ne (by omega), up_ne (by omega)]; exact b1, by rw [up_ne (by omega), up_ne (by omega)]; exact b2, fun q hq => by rw [up_ne (by omega), up_ne (by omega)]; exact b3 q hq, b4, fun q hq => ?_⟩
    rw [up_ne (by omega)]
    by_cases z : q = w
    · subst z
      exact ⟨t, ht, up_self _ _ _⟩
    · rw [up_ne (by omega)]
      exact b5 q hq
  · refine st_rest_congr ?_ ?_ ?_ ?_ ?_ (fun _ _ _ => ?_) rs <;> rw [up_ne (by omega), up_ne (by omega)]
/-- a ball falls into a bin -/
theorem st_fall {B n' w b : Nat} {s s' : Nat → Int32} {E E' : Nat → Nat → Int32} (hn : s 3 = Int32.ofNat n') (hn2 : n' ≤ 40) (hw : w < n') (hb5 : b < 5)
    (c1 : ∀ j, j < 105 ∨ 225 ≤ j → j ≠ 3 → j ≠ 95 + b → j ≠ 100 + b → s' j = s j) (c2 : s' 3 = Int32.ofNat (n' - 1)) (c3 : s' (95 + b) = s (95 + b) + 1) (c4 : s' (100 + b) = s (100 + b) + 1) (c5 : ∀ r c, r < n' - 1 → c < 3 → s' (105 + 3 * r + c) = s (105 + 3 * (if r < w then r else r + 1) + c))
    (d1 : ∀ o j, (o < 18 ∨ 25 ≤ o) → ¬ (o = 4 ∧ j = b) → ¬ (o = 6 ∧ j = b) → E' o j = E o j) (d2 : E' 18 0 = Int32.ofNat (n' - 1)) (d3 : E' 4 b = E 4 b + 1) (d4 : E' 6 b = E 6 b + 1) (d5 : ∀ r c, r < n' - 1 → c < 3 → E' (20 + 2 * c) r = E (20 + 2 * c) (if r < w then r else r + 1)) (h : st_ok B s E) : st_ok B s' E' := by
  obtain ⟨m, n, st, kp, o, hb, nb, r, e1, e2, gs, bl, rs⟩ := h
  have hk : kp ≤ 60 := rs.2.2.2.2.2.1
  have hnn : n' = n := n_inj (by omega) (by have := st_n40 bl; omega) (hn.symm.trans bl.1)
  subst hnn
  obtain ⟨r1, r2, r3, r4, r5⟩ := r
  obtain ⟨b1, b2, b3, b4, b5⟩ := bl
  refine ⟨m, n' - 1, st, kp, o, fun q => if q = b then hb q + 1 else hb q, nb, ⟨fun i hi => ?_, fun g w hg hw => ?_, fun q w hq hw => ?_, fun r c hr hc => ?_, fun q w hq hw => ?_⟩, by rw [d1 25 0 (by omega) (by omega) (by omega)]; exact e1, e2, st_gates_congr (c1 _ (by omega) (by omega) (by omega) (by omega)) (fun _ _ _ => c1 _ (by omega) (by omega) (by omega) (by omega)) gs, ⟨c2, by rw [c1 _ (by omega) (by omega) (by omega) (by omega)]; exact b2, fun q hq => ?_, ?_, fun r hr => ?_⟩, st_rest_congr (c1 _ (by omega) (by omega) (by omega) (by omega)) (c1 _ (by omega) (by omega) (by omega) (by omega)) (c1 _ (by omega) (by omega) (by omega) (by omega)) (c1 _ (by omega) (by omega) (by omega) (by omega)) (c1 _ (by omega) (by omega) (by omega) (by omega)) (fun _ _ _ => c1 _ (by omega) (by omega) (by omega) (by omega)) rs⟩
  · by_cases i3 : i = 3
    · subst i3
      show s' 3 = E' 18 0
      rw [c2, d2]
    · have hso : (so i < 18 ∨ 25 ≤ so i) ∧ so i ≠ 4 ∧ so i ≠ 6 := by
        have : ∀ i, i < 11 → i ≠ 3 → (so i < 18 ∨ 25 ≤ so i) ∧ so i ≠ 4 ∧ so i ≠ 6 := by decide
        exact this i hi i3
      rw [c1 i (by omega) i3 (by omega) (by omega), d1 _ _ hso.1 (fun z => hso.2.1 z.1) (fun z => hso.2.2 z.1), r1 i hi]
  · have hgo : go w < 18 ∧ go w ≠ 4 ∧ go w ≠ 6 := by
      have : ∀ w, w < 7 → go w < 18 ∧ go w ≠ 4 ∧ go w ≠ 6 := by decide
      exact this w hw
    rw [c1 _ (by omega) (by omega) (by omega) (by omega), d1 _ _ (by omega) (fun z => hgo.2.1 z.1) (fun z => hgo.2.2 z.1), r2 g w hg hw]
  · obtain rfl | rfl : w = 0 ∨ w = 1 := by omega
    · by_cases z : q = b
      · subst z
        show s' (95 + q) = E' 4 q
        have e : s (95 + q) = E 4 q := r3 q 0 hq (by omega)
        rw [c3, d3, e]
      · rw [c1 _ (by omega) (by omega) (by omega) (by omega), d1 _ _ (by omega) (by omega) (by omega), r3 q 0 hq (by omega)]
    · by_cases z : q = b
      · subst z
        show s' (95 + 5 * 1 + q) = E' 6 q
        have := r3 q 1 hq (by omega)
        rw [show 95 + 5 * 1 + q = 100 + q by omega] at this ⊢
        rw [c4, d4, this]
      · rw [c1 _ (by omega) (by omega) (by omega) (by omega), d1 _ _ (by omega) (by omega) (by omega), r3 q 1 hq (by omega)]
  · rw [c5 r c hr hc, d5 r c hr hc, r4 _ c (by split <;> omega) hc]
  · rw [c1 _ (by omega) (by omega) (by omega) (by omega), d1 _ _ (by omega) (by omega) (by omega), r5 q w hq hw]
  · by_cases z : q = b
    · subst z
      rw [c3, b3 q hq, nI_up]
      dsimp only
      rw [if_pos rfl]
    · rw [c1 _ (by omega) (by omega) (by omega) (by omega), b3 q hq]
      dsimp only
      rw [if_neg z]
  · dsimp only
    obtain rfl | rfl | rfl | rfl | rfl : b = 0 ∨ b = 1 ∨ b = 2 ∨ b = 3 ∨ b = 4 := by omega
    all_goals simp
    all_goals omega
  · have := c5 r 0 hr (by omega)
    rw [Nat.add_zero, Nat.add_zero] at this
    rw [this]
    exact b5 _ (by split <;> omega)
