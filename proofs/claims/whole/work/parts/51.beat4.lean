/-! all balls, the drop, the lift, the beat -/
theorem st_bcongr {B n' : Nat} {s : Nat → Int32} {E E' : Nat → Nat → Int32} (hn : s 3 = Int32.ofNat n') (hn2 : n' ≤ 40) (hE : ∀ o j, st_hit o j = true → ¬ ((o = 20 ∨ o = 22 ∨ o = 24) ∧ n' ≤ j) → E' o j = E o j) (h : st_ok B s E) : st_ok B s E' := by
  obtain ⟨m, n, st, kp, o, hb, nb, ⟨r1, r2, r3, r4, r5⟩, e1, e2, gs, b, rs⟩ := h
  have hnn : n' = n := n_inj (by omega) (by have := st_n40 b; omega) (hn.symm.trans b.1)
  subst hnn
  refine ⟨m, n', st, kp, o, hb, nb, ⟨fun i hi => ?_, fun g w hg hw => ?_, fun q w hq hw => ?_, fun r w hr hw => ?_, fun q w hq hw => ?_⟩, ?_, e2, gs, b, rs⟩
  · have : ∀ i, i < 11 → so i ≠ 20 ∧ so i ≠ 22 ∧ so i ≠ 24 := by decide
    have := this i hi
    rw [hE _ _ (st_h1 i hi) (by omega)]; exact r1 i hi
  · have : ∀ w, w < 7 → go w < 20 := by decide
    have := this w hw
    rw [hE _ _ (st_h2 g hg w hw) (by omega)]; exact r2 g w hg hw
  · rw [hE _ _ (st_h3 q hq w hw) (by omega)]; exact r3 q w hq hw
  · rw [hE _ _ (st_h4 r (by omega) w hw) (by omega)]; exact r4 r w hr hw
  · rw [hE _ _ (st_h5 _ (Nat.mod_lt _ (by decide)) w hw) (by omega)]; exact r5 q w hq hw
  · rw [hE _ _ (by decide +kernel) (by omega)]; exact e1
theorem balls_loop {B n : Nat} (hn : n ≤ 40) : ∀ (c w r N N' : Nat) (D D' : am_DD), w ≤ r → r + c = n → c < N → c < N' → st_ok B (D' 322) (vE D w r n) →
    ∃ D1 D1' w' N'', fn_76_12 N (Int32.ofNat n) (Int32.ofNat w) (Int32.ofNat r) D = some (0, D1) ∧ fn_88_12 N' (Int32.ofNat w) D' = fn_88_12 (N'' + 1) (Int32.ofNat w') D1' ∧ D1' 322 3 = Int32.ofNat w' ∧ w' ≤ 40 ∧ st_ok B (D1' 322) (st_v D1 1) ∧ (∀ a, 33 ≤ a → D1 a = D a) ∧ ∀ a, a ≠ 322 → D1' a = D' a := by
  intro c
  induction c with
  | zero =>
    intro w r N N' D D' hw hr hN hN' h
    obtain ⟨N, rfl⟩ : ∃ n', N = n' + 1 := ⟨N - 1, by omega⟩
    obtain ⟨N', rfl⟩ : ∃ n', N' = n' + 1 := ⟨N' - 1, by omega⟩
    have hrn : r = n := by omega
    subst hrn
    have s3 : D' 322 3 = Int32.ofNat w := by
      obtain ⟨m, n2, st, kp, o, hb, nb, rel, -⟩ := id h
      have := (rel.1 3 (by omega)).trans vE_n
      rw [show r - (r - w) = w by omega] at this
      exact this
    refine ⟨am_upd D 19 0 (Int32.ofNat w), D', w, N', ?_, rfl, s3, by omega, ?_, fun a ha => u_row (by omega), fun _ _ => rfl⟩
    · rw [fn_76_12, if_pos (n_ile (by omega) (by omega) (by omega))]
    · refine st_bcongr s3 (by omega) (fun o j _ ho => ?_) h
      by_cases h18 : o = 18
      · subst h18
        rw [vE_18, show r - (r - w) = w by omega]
        by_cases hj : j = 0
        · rw [if_pos hj, hj]
          exact u_self _ _ _ _
        · rw [if_neg hj]
          exact u_ne (fun z => hj z.2)
      · unfold st_v
        rw [u_ne (by omega)]
        by_cases hb : o = 20 ∨ o = 22 ∨ o = 24
        · rw [vE_lo (by omega) h18]
        · rw [vE_ne hb h18]
  | succ c ih =>
    intro w r N N' D D' hw hr hN hN' h
    obtain ⟨N, rfl⟩ : ∃ n', N = n' + 1 := ⟨N - 1, by omega⟩
    obtain ⟨N', rfl⟩ : ∃ n', N' = n' + 1 := ⟨N' - 1, by omega⟩
    obtain ⟨w', D1, D1', b1, b2, b3, b4, b5, b6⟩ := ball_step hw (by omega) hn h
    obtain ⟨D2, D2', w'', N'', c1, c2, c3, c4, c5, c6, c7⟩ := ih w' (r + 1) N N' D1 D1' b1 (by omega) (by omega) (by omega) b4
    exact ⟨D2, D2', w'', N'', (b2 N).trans c1, (b3 N').trans c2, c3, c4, c5, fun a ha => (c6 a ha).trans (b5 a ha), fun a ha => (c7 a ha).trans (b6 a ha)⟩
/-- a ball is dropped -/
theorem st_dropb {B n' x y m' : Nat} {s s' : Nat → Int32} {E E' : Nat → Nat → Int32} (hn : s 3 = Int32.ofNat n') (hn2 : n' ≤ 40) (hx : s 2 = Int32.ofNat x) (hx1 : 1 ≤ x) (hx2 : x ≤ 40) (hy : s 4 = Int32.ofNat y) (hy1 : 1 ≤ y) (hy2 : y ≤ 200) (hm : s 1 = Int32.ofNat m') (hm1 : 1 ≤ m') (hm2 : m' ≤ 12)
    (c1 : ∀ j, j ≠ 2 → j ≠ 3 → j ≠ 4 → j ≠ 7 → j ≠ 105 + 3 * n' + 0 → j ≠ 105 + 3 * n' + 1 → j ≠ 105 + 3 * n' + 2 → s' j = s j) (c2 : s' 2 = Int32.ofNat (x - 1)) (c3 : s' 3 = Int32.ofNat (n' + 1)) (c4 : s' 4 = Int32.ofNat (y - 1)) (c7 : s' 7 = s 7 + 1) (c8 : s' (105 + 3 * n' + 0) = 0) (c9 : s' (105 + 3 * n' + 1) = s 0) (c10 : s' (105 + 3 * n' + 2) = 0)
    (d1 : ∀ o j, ¬ (o = 0 ∧ (j = 1 ∨ j = 2 ∨ j = 3)) → ¬ (o = 18 ∧ j = 0) → ¬ ((o = 20 ∨ o = 22 ∨ o = 24) ∧ j = n') → E' o j = E o j) (d2 : E' 0 1 = Int32.ofNat (x - 1)) (d3 : E' 18 0 = Int32.ofNat (n' + 1)) (d4 : E' 0 2 = Int32.ofNat (y - 1)) (d7 : E' 0 3 = s 7 + 1) (d8 : E' 20 n' = 0) (d9 : E' 22 n' = s 0) (d10 : E' 24 n' = 0) (h : st_ok B s E) : st_ok B s' E' ∧ n' < 40 := by
  obtain ⟨m, n, st, kp, o, hb, nb, ⟨r1, r2, r3, r4, r5⟩, e1, e2, gs, b, rs⟩ := h
  have hnn : n' = n := n_inj (by omega) (by have := st_n40 b; omega) (hn.symm.trans b.1)
  subst hnn
  obtain ⟨b1, b2, b3, b4, b5⟩ := b
  have hmm : m' = m := n_inj (by omega) (by have := gs.2.1; omega) (hm.symm.trans gs.1)
  subst hmm
  have hxx : x = st := n_inj (by omega) (by omega) (hx.symm.trans b2)
  subst hxx
  have hn3 : n' < 40 := by omega
  refine ⟨⟨m', n' + 1, x - 1, kp, o, hb, nb, ⟨fun i hi => ?_, fun g w hg hw => ?_, fun q w hq hw => ?_, fun r w hr hw => ?_, fun q w hq hw => ?_⟩, by rw [d1 _ _ (by omega) (by omega) (by omega)]; exact e1, e2, st_gates_congr (c1 _ (by omega) (by omega) (by omega) (by omega) (by omega) (by omega) (by omega)) (fun _ _ _ => c1 _ (by omega) (by omega) (by omega) (by omega) (by omega) (by omega) (by omega)) gs, ⟨c3, c2, fun q hq => by rw [c1 _ (by omega) (by omega) (by omega) (by omega) (by omega) (by omega) (by omega)]; exact b3 q hq, by omega, fun r hr => ?_⟩, ?_⟩, hn3⟩
  · by_cases i2 : i = 2
    · subst i2
      show s' 2 = E' 0 1
      rw [c2, d2]
    · by_cases i3 : i = 3
      · subst i3
        show s' 3 = E' 18 0
        rw [c3, d3]
      · by_cases i4 : i = 4
        · subst i4
          show s' 4 = E' 0 2
          rw [c4, d4]
        · by_cases i7 : i = 7
          · subst i7
            show s' 7 = E' 0 3
            rw [c7, d7]
          · have a1 : ∀ i, i < 11 → (i = 2 ∨ i = 3 ∨ i = 4 ∨ i = 7) ∨ ¬ (so i = 0 ∧ (sj i = 1 ∨ sj i = 2 ∨ sj i = 3)) := by decide
            have a2 : ∀ i, i < 11 → i = 3 ∨ ¬ (so i = 18 ∧ sj i = 0) := by decide
            have a3 : ∀ i, i < 11 → ¬ (so i = 20 ∨ so i = 22 ∨ so i = 24) := by decide
            have q1 := (a1 i hi).resolve_left (by omega)
            have q2 := (a2 i hi).resolve_left i3
            have q3 := a3 i hi
            rw [c1 i i2 i3 i4 i7 (by omega) (by omega) (by omega), d1 _ _ q1 q2 (fun z => q3 z.1), r1 i hi]
  · have : ∀ w, w < 7 → go w < 18 ∧ go w ≠ 0 := by decide
    have := this w hw
    rw [c1 _ (by omega) (by omega) (by omega) (by omega) (by omega) (by omega) (by omega), d1 _ _ (by omega) (by omega) (by omega), r2 g w hg hw]
  · rw [c1 _ (by omega) (by omega) (by omega) (by omega) (by omega) (by omega) (by omega), d1 _ _ (by omega) (by omega) (by omega), r3 q w hq hw]
  · by_cases z : r = n'
    · subst z
      obtain rfl | rfl | rfl : w = 0 ∨ w = 1 ∨ w = 2 := by omega
      · rw [c8]; exact d8.symm
      · rw [c9]; exact d9.symm
      · rw [c10]; exact d10.symm
    · rw [c1 _ (by omega) (by omega) (by omega) (by omega) (by omega) (by omega) (by omega), d1 _ _ (by omega) (by omega) (by omega), r4 r w (by omega) hw]
  · have := rs.2.2.2.2.2.1
    rw [c1 _ (by omega) (by omega) (by omega) (by omega) (by omega) (by omega) (by omega), d1 _ _ (by omega) (by omega) (by omega), r5 q w hq hw]
  · by_cases z : r = n'
    · subst z
      exact ⟨0, by omega, c8⟩
    · rw [c1 _ (by omega) (by omega) (by omega) (by omega) (by omega) (by omega) (by omega)]
      exact b5 r (by omega)
  · obtain ⟨⟨bt, z1, z2, z3⟩, ⟨w, w1, w2⟩, ⟨gp, p1, p2, p3⟩, ⟨lvl, l1, l2, l3⟩, t1, t2, t3, t4, t5⟩ := rs
    have cc : ∀ j, j ≠ 2 → j ≠ 3 → j ≠ 4 → j ≠ 7 → (j < 105 ∨ 225 ≤ j) → s' j = s j := fun j a1 a2 a3 a4 a5 => c1 j a1 a2 a3 a4 (by omega) (by omega) (by omega)
    refine ⟨⟨bt, z1, by rw [cc _ (by omega) (by omega) (by omega) (by omega) (by omega)]; exact z2, z3⟩, ⟨y - 1, by omega, c4⟩, ⟨gp, p1, p2, by rw [cc _ (by omega) (by omega) (by omega) (by omega) (by omega)]; exact p3⟩, ⟨lvl, l1, l2, by rw [cc _ (by omega) (by omega) (by omega) (by omega) (by omega)]; exact l3⟩, by rw [cc _ (by omega) (by omega) (by omega) (by omega) (by omega)]; exact t1, t2, fun q hq => by rw [cc _ (by omega) (by omega) (by omega) (by omega) (by omega)]; exact t3 q hq, t4, fun q hq => by rw [cc _ (by omega) (by omega) (by omega) (by omega) (by omega)]; exact t5 q hq⟩
theorem n_pos {a : Nat} (ha : a < 2 ^ 31) : (Int32.ofNat a ≤ 0) ↔ a = 0 := by
  have : Int32.ofNat a ≤ Int32.ofNat 0 ↔ a ≤ 0 := n_le ha (by omega)
  exact this.trans (by omega)
set_option maxHeartbeats 2000000 in
theorem drop_step {B : Nat} {D D' : am_DD} (h : st_ok B (D' 322) (st_v D 1)) : ∃ D1 D1', fn_78 D = some (0, D1) ∧ (∀ N x, D' 322 3 ≤ x → fn_88_12 (N + 1) x D' = (match fn_87 D1' with | none => none | some (_, D5) => some (0, D5))) ∧ st_ok B (D1' 322) (st_v D1 1) ∧ (∀ a, 33 ≤ a → D1 a = D a) ∧ ∀ a, a ≠ 322 → D1' a = D' a := by
  obtain ⟨m, n, st, kp, o, hb, nb, ⟨r1, r2, r3, r4, r5⟩, e1, e2, gs, b, rs⟩ := id h
  have b40 := st_n40 b
  obtain ⟨⟨bt, z1, z2, z3⟩, ⟨w, w1, w2⟩, ⟨gp, p1, p2, p3⟩, -⟩ := rs
  obtain ⟨b1, b2, b3, b4, b5⟩ := b
  have g2 := gs.2.1
  have k3 : rw_at (D 3) 2 0 = Int32.ofNat gp := by
    have : D' 322 5 = D 3 0 := r1 5 (by omega)
    have f : rw_at (D 3) 2 (Int32.ofNat 0) = D 3 0 := rw_at_nI (by decide) (by decide)
    have f' : rw_at (D 3) 2 0 = D 3 0 := f
    rw [f', ← this, p3]
  have k10 : D 1 0 = D' 322 0 := (r1 0 (by omega)).symm
  have k11 : D 1 1 = Int32.ofNat st := by
    have : D' 322 2 = D 1 1 := r1 2 (by omega)
    rw [← this, b2]
  have k12 : D 1 2 = Int32.ofNat w := by
    have : D' 322 4 = D 1 2 := r1 4 (by omega)
    rw [← this, w2]
  have k13 : D 1 3 = D' 322 7 := (r1 7 (by omega)).symm
  have k8 : D 8 0 = Int32.ofNat m := by
    have : D' 322 1 = D 8 0 := r1 1 (by omega)
    rw [← this]; exact gs.1
  have k19 : D 19 0 = Int32.ofNat n := by
    have : D' 322 3 = D 19 0 := r1 3 (by omega)
    rw [← this]; exact b1
  have gp0 : ¬ Int32.ofNat gp ≤ 0 := fun z => by have := (n_pos (by omega)).mp z; omega
  have gp1 : ¬ Int32.ofNat gp = 0 := fun z => by have := n_inj (b := 0) (by omega) (by omega) z; omega
  by_cases cm : (D' 322 0) - (D' 322 0) / Int32.ofNat gp * Int32.ofNat gp = 0
  · by_cases cw : w = 0
    · refine ⟨D, D', ?_, fun N x hx => ?_, h, fun _ _ => rfl, fun _ _ => rfl⟩
      · unfold fn_78
        rw [k3, if_neg gp0, if_neg gp1, k10, if_neg (not_not_intro cm), k12, if_pos ((n_pos (by omega)).mpr cw)]
      · rw [fn_88_12, if_pos hx, p3, if_neg gp1, if_neg (not_not_intro cm), w2, if_pos ((n_pos (by omega)).mpr cw)]
        rfl
    · have cw' : ¬ Int32.ofNat w ≤ 0 := mt (n_pos (by omega)).mp cw
      by_cases cs : st = 0
      · refine ⟨D, D', ?_, fun N x hx => ?_, h, fun _ _ => rfl, fun _ _ => rfl⟩
        · unfold fn_78
          rw [k3, if_neg gp0, if_neg gp1, k10, if_neg (not_not_intro cm), k12, if_neg cw', k11, if_pos ((n_pos (by omega)).mpr cs)]
        · rw [fn_88_12, if_pos hx, p3, if_neg gp1, if_neg (not_not_intro cm), w2, if_neg cw', b2, if_pos ((n_pos (by omega)).mpr cs)]
          rfl
      · have cs' : ¬ Int32.ofNat st ≤ 0 := mt (n_pos (by omega)).mp cs
        by_cases c0 : m = 0
        · have nr : ¬ rng (0 : Int32) 0 (m - 1) := fun z => by
            have := z.2
            rw [l_0] at this
            omega
          refine ⟨D, D', ?_, fun N x hx => ?_, h, fun _ _ => rfl, fun _ _ => rfl⟩
          · unfold fn_78
            rw [k3, if_neg gp0, if_neg gp1, k10, if_neg (not_not_intro cm), k12, if_neg cw', k11, if_neg cs', fn_36_b k8 g2, b01_f nr]
            rfl
          · rw [fn_88_12, if_pos hx, p3, if_neg gp1, if_neg (not_not_intro cm), w2, if_neg cw', b2, if_neg cs', gs.1, if_pos ((n_pos (by omega)).mpr c0)]
            rfl
        · have c0' : ¬ Int32.ofNat m ≤ 0 := mt (n_pos (by omega)).mp c0
          have yr : rng (0 : Int32) 0 (m - 1) := ⟨by rw [l_0]; omega, by rw [l_0]; omega⟩
          have hn40 : n < 40 := by omega
          have f77 : fn_78 D = some (0, am_upd (am_upd (am_upd (am_upd (am_upd (am_upd (am_upd D 1 1 (Int32.ofNat (st - 1))) 1 2 (Int32.ofNat (w - 1))) 1 3 (D 1 3 + 1)) 21 n 0) 23 n (D 1 0)) 25 n 0) 19 0 (Int32.ofNat (n + 1))) := by
            have es : Int32.ofNat st - 1 = Int32.ofNat (st - 1) := n_sub (b := 1) (by omega) (by omega)
            have ew : Int32.ofNat w - 1 = Int32.ofNat (w - 1) := n_sub (b := 1) (by omega) (by omega)
            unfold fn_78
            rw [k3, if_neg gp0, if_neg gp1]
            have cm' : ¬ ¬ (D 1 0 - D 1 0 / Int32.ofNat gp * Int32.ofNat gp = 0) := by
              rw [k10]
              exact not_not_intro cm
            rw [if_neg cm']
            rw [if_neg (show ¬ D 1 2 ≤ 0 by rw [k12]; exact cw'), if_neg (show ¬ D 1 1 ≤ 0 by rw [k11]; exact cs'), fn_36_b k8 g2, b01_t yr]
            dsimp only
            rw [if_neg (by decide), u_ne (show ¬ (1 = 1 ∧ 2 = 1) by omega), k11, k12, es, ew]
            unfold fn_77
            rw [u_ne (show ¬ (1 = 1 ∧ 3 = 2) by omega), u_ne (show ¬ (1 = 1 ∧ 3 = 1) by omega)]
            have z19 : am_upd (am_upd (am_upd D 1 1 (Int32.ofNat (st - 1))) 1 2 (Int32.ofNat (w - 1))) 1 3 (D 1 3 + 1) 19 0 = Int32.ofNat n := by rw [u_ne (by omega), u_ne (by omega), u_ne (by omega), k19]
            have z10 : am_upd (am_upd (am_upd D 1 1 (Int32.ofNat (st - 1))) 1 2 (Int32.ofNat (w - 1))) 1 3 (D 1 3 + 1) 1 0 = D 1 0 := by rw [u_ne (by omega), u_ne (by omega), u_ne (by omega)]
            generalize am_upd (am_upd (am_upd D 1 1 (Int32.ofNat (st - 1))) 1 2 (Int32.ofNat (w - 1))) 1 3 (D 1 3 + 1) = Dm at z19 z10
            rw [z19, z10, rw_put_nI (by omega) (by decide), u_ne (by omega), z19, rw_put_nI (by omega) (by decide), u_ne (by omega), u_ne (by omega), z19, rw_put_nI (by omega) (by decide), u_ne (by omega), u_ne (by omega), u_ne (by omega), z19, nI_up]
          obtain ⟨D86, f86, q1, q2, q3, q4, q7, q8, q9, q10, q11⟩ : ∃ D86, fn_86 D' = some (0, D86) ∧ (∀ j, j ≠ 2 → j ≠ 3 → j ≠ 4 → j ≠ 7 → j ≠ 105 + 3 * n + 0 → j ≠ 105 + 3 * n + 1 → j ≠ 105 + 3 * n + 2 → D86 322 j = D' 322 j) ∧ D86 322 2 = Int32.ofNat (st - 1) ∧ D86 322 3 = Int32.ofNat (n + 1) ∧ D86 322 4 = Int32.ofNat (w - 1) ∧ D86 322 7 = D' 322 7 + 1 ∧ D86 322 (105 + 3 * n + 0) = 0 ∧ D86 322 (105 + 3 * n + 1) = D' 322 0 ∧ D86 322 (105 + 3 * n + 2) = 0 ∧ ∀ a, a ≠ 322 → D86 a = D' a := by
            have es : Int32.ofNat st - 1 = Int32.ofNat (st - 1) := n_sub (b := 1) (by omega) (by omega)
            have ew : Int32.ofNat w - 1 = Int32.ofNat (w - 1) := n_sub (b := 1) (by omega) (by omega)
            have rx1 : ((105 : Int32) + (3 * Int32.ofNat n)) + 1 = Int32.ofNat (105 + 3 * n + 1) := rx (w := 1)
            unfold fn_86
            rw [b1, rx0, rx1, rx2, if_neg (n_bad (by decide) (by omega)), if_neg (n_bad (by decide) (by omega)), if_neg (n_bad (by decide) (by omega)), c_ofNat (by omega), c_ofNat (by omega), c_ofNat (by omega)]
            refine ⟨_, rfl, fun j j2 j3 j4 j7 j8 j9 j10 => ?_, ?_, ?_, ?_, ?_, ?_, ?_, ?_, fun a ha => ?_⟩
            · rw [u_ne (by omega), u_ne (by omega), u_ne (by omega), u_ne (by omega), u_ne (by omega), u_ne (by omega), u_ne (by omega)]
            · rw [u_ne (by omega), u_ne (by omega), u_self, u_ne (by omega), u_ne (by omega), u_ne (by omega), u_ne (by omega), b2, es]
            · rw [u_ne (by omega), u_ne (by omega), u_ne (by omega), u_self, u_ne (by omega), u_ne (by omega), u_ne (by omega), b1, nI_up]
            · rw [u_ne (by omega), u_self, u_ne (by omega), u_ne (by omega), u_ne (by omega), u_ne (by omega), u_ne (by omega), w2, ew]
            · rw [u_self, u_ne (by omega), u_ne (by omega), u_ne (by omega), u_ne (by omega), u_ne (by omega), u_ne (by omega)]
            · rw [u_ne (by omega), u_ne (by omega), u_ne (by omega), u_ne (by omega), u_ne (by omega), u_ne (by omega), u_self]
            · rw [u_ne (by omega), u_ne (by omega), u_ne (by omega), u_ne (by omega), u_ne (by omega), u_self, u_ne (by omega)]
            · rw [u_ne (by omega), u_ne (by omega), u_ne (by omega), u_ne (by omega), u_self]
            · rw [u_row ha, u_row ha, u_row ha, u_row ha, u_row ha, u_row ha, u_row ha]
          refine ⟨_, D86, f77, fun N x hx => ?_, (st_dropb (n' := n) (x := st) (y := w) (m' := m) b1 b40 b2 (by omega) (by omega) w2 (by omega) (by omega) gs.1 (by omega) g2 q1 q2 q3 q4 q7 q8 q9 q10 (fun o' j y1 y2 y3 => ?_) ?_ ?_ ?_ ?_ ?_ ?_ ?_ h).1, fun a ha => ?_, q11⟩
          · rw [fn_88_12, if_pos hx, p3, if_neg gp1, if_neg (not_not_intro cm), w2, if_neg cw', b2, if_neg cs', gs.1, if_neg c0', f86]
            rfl
          · unfold st_v
            rw [u_ne (by omega), u_ne (by omega), u_ne (by omega), u_ne (by omega), u_ne (by omega), u_ne (by omega), u_ne (by omega)]
          · unfold st_v
            rw [u_ne (by omega), u_ne (by omega), u_ne (by omega), u_ne (by omega), u_ne (by omega), u_ne (by omega), u_self]
          · unfold st_v
            rw [u_self]
          · unfold st_v
            rw [u_ne (by omega), u_ne (by omega), u_ne (by omega), u_ne (by omega), u_ne (by omega), u_self]
          · unfold st_v
            rw [u_ne (by omega), u_ne (by omega), u_ne (by omega), u_ne (by omega), u_self, k13]
          · unfold st_v
            rw [u_ne (by omega), u_ne (by omega), u_ne (by omega), u_self]
          · unfold st_v
            rw [u_ne (by omega), u_ne (by omega), u_self, k10]
          · unfold st_v
            rw [u_ne (by omega), u_self]
          · rw [u_row (by omega), u_row (by omega), u_row (by omega), u_row (by omega), u_row (by omega), u_row (by omega), u_row (by omega)]
  · refine ⟨D, D', ?_, fun N x hx => ?_, h, fun _ _ => rfl, fun _ _ => rfl⟩
    · unfold fn_78
      rw [k3, if_neg gp0, if_neg gp1, k10, if_pos cm]
    · rw [fn_88_12, if_pos hx, p3, if_neg gp1, if_pos cm]
      rfl
/-- a ball is lifted -/
theorem st_lift {B b : Nat} {s : Nat → Int32} {E : Nat → Nat → Int32} (hb5 : b < 5) (hl : ¬ s (95 + b) < s 6) (h : st_ok B s E) : st_ok B (up (up (up s (95 + b) (s (95 + b) - 1)) 2 (s 2 + 1)) 8 (s 8 + 1)) (am_upd (am_upd (am_upd E 4 b (s (95 + b) - 1)) 0 1 (s 2 + 1)) 0 4 (s 8 + 1)) := by
  obtain ⟨m, n, st, kp, o, hb, nb, r, e1, e2, gs, bl, rs⟩ := h
  have hk : kp ≤ 60 := rs.2.2.2.2.2.1
  obtain ⟨lvl, l1, l2, l3⟩ := rs.2.2.2.1
  obtain ⟨b1, b2, b3, b4, b5⟩ := bl
  have hsum : hb b ≤ 40 := by
    obtain rfl | rfl | rfl | rfl | rfl : b = 0 ∨ b = 1 ∨ b = 2 ∨ b = 3 ∨ b = 4 := by omega
    all_goals omega
  have hbl : lvl ≤ hb b := by
    rw [b3 b hb5, l3] at hl
    have := mt (n_lt (a := hb b) (b := lvl) (by omega) (by omega)).mpr hl
    omega
  have hr := rl_lv (i0 := 8) (s 8 + 1) (by omega) (rl_lv (i0 := 2) (s 2 + 1) (by omega) (rl_lv (i0 := 95 + 5 * 0 + b) (s (95 + b) - 1) (by omega) ((rel_rl (by omega) hk).mp r)))
  rw [lc_b o hb5 (by omega), lc_a o (by omega), lc_a o (by omega)] at hr
  refine ⟨m, n, st + 1, kp, o, fun b' => if b' = b then hb b' - 1 else hb b', nb, (rel_rl (by omega) hk).mpr hr, by rw [u_ne (by omega), u_ne (by omega), u_ne (by omega)]; exact e1, e2, st_gates_congr (by rw [up_ne (by omega), up_ne (by omega), up_ne (by omega)]) (fun _ _ _ => by rw [up_ne (by omega), up_ne (by omega), up_ne (by omega)]) gs, ⟨by rw [up_ne (by omega), up_ne (by omega), up_ne (by omega)]; exact b1, by rw [up_ne (by omega), up_self, b2, nI_up], fun b' hb' => ?_, ?_, fun r hr => by rw [up_ne (by omega), up_ne (by omega), up_ne (by omega)]; exact b5 r hr⟩, ?_⟩
  · rw [up_ne (by omega), up_ne (by omega)]
    by_cases z : b' = b
    · have : Int32.ofNat (hb b) - 1 = Int32.ofNat (hb b - 1) := n_sub (b := 1) (by omega) (by omega)
      rw [z, up_self, b3 b hb5, this]
      dsimp only
      rw [if_pos rfl]
    · rw [up_ne (by omega), b3 b' hb']
      dsimp only
      rw [if_neg z]
  · dsimp only
    obtain rfl | rfl | rfl | rfl | rfl : b = 0 ∨ b = 1 ∨ b = 2 ∨ b = 3 ∨ b = 4 := by omega
    all_goals simp
    all_goals omega
  · refine st_rest_congr ?_ ?_ ?_ ?_ ?_ (fun _ _ _ => ?_) rs <;> rw [up_ne (by omega), up_ne (by omega), up_ne (by omega)]
theorem lift_step {B : Nat} {D D' : am_DD} (h : st_ok B (D' 322) (st_v D 1)) : ∀ (c b x N N' : Nat), x + c = 5 → b < 5 → c < N → c < N' → ∃ D1 D1', fn_79_4 N (Int32.ofNat b) (Int32.ofNat x) D = some (0, D1) ∧ fn_87_4 N' (Int32.ofNat b) (Int32.ofNat x) D' = some (0, D1') ∧ st_ok B (D1' 322) (st_v D1 1) ∧ (∀ a, 33 ≤ a → D1 a = D a) ∧ ∀ a, a ≠ 322 → D1' a = D' a := by
  have kb : ∀ b, b < 5 → D 5 b = D' 322 (95 + b) := fun b hb => by
    obtain ⟨m, n, st, kp, o, hb', nb, r, -⟩ := h
    have e : D' 322 (95 + b) = D 5 b := r.2.2.1 b 0 hb (by omega)
    exact e.symm
  have k6 : D 3 1 = D' 322 6 := by
    obtain ⟨m, n, st, kp, o, hb', nb, r, -⟩ := h
    exact (r.1 6 (by omega)).symm
  have k2 : D 1 1 = D' 322 2 := by
    obtain ⟨m, n, st, kp, o, hb', nb, r, -⟩ := h
    exact (r.1 2 (by omega)).symm
  have k8 : D 1 4 = D' 322 8 := by
    obtain ⟨m, n, st, kp, o, hb', nb, r, -⟩ := h
    exact (r.1 8 (by omega)).symm
  have f31 : rw_at (D 3) 2 1 = D 3 1 := rw_at_nI (k := 1) (by decide) (by decide)
  intro c
  induction c with
  | zero =>
    intro b x N N' hx hb hN hN'
    obtain ⟨N, rfl⟩ : ∃ n', N = n' + 1 := ⟨N - 1, by omega⟩
    obtain ⟨N', rfl⟩ : ∃ n', N' = n' + 1 := ⟨N' - 1, by omega⟩
    have q5 : (5 : Int32) ≤ Int32.ofNat x := n_ile (a := 5) (by omega) (by omega) (by omega)
    have nb9 : ¬ (Int32.ofNat (95 + b) < 0 ∨ 405 ≤ (Int32.ofNat (95 + b)).toNatClampNeg) := n_bad (by decide) (by omega)
    rw [fn_79_4, fn_87_4, if_pos q5, if_pos q5, bx]
    simp only [if_neg nb9]
    rw [rw_at_nI hb (by decide), f31, c_ofNat (by omega), kb b hb, k6]
    by_cases z : D' 322 (95 + b) < D' 322 6
    · rw [if_pos z, if_pos z]
      exact ⟨D, D', rfl, rfl, h, fun _ _ => rfl, fun _ _ => rfl⟩
    · rw [if_neg z, if_neg z, rw_raise_nI hb (by decide)]
      have A := st_lift hb z h
      refine ⟨_, _, rfl, rfl, ?_, fun a ha => by rw [u_row (by omega), u_row (by omega), u_row (by omega)], fun a ha => by rw [u_row ha, u_row ha, u_row ha]⟩
      have em : ∀ a : Int32, a + (-1) = a - 1 := fun a => (Int32.sub_eq_add_neg a 1).symm
      rw [up_row, up_row, up_row, st_v_up (r' := 1) (r := 0) rfl, st_v_up (r' := 1) (r := 0) rfl, st_v_up (r' := 5) (r := 4) rfl]
      rw [u_ne (show ¬ (1 = 1 ∧ 4 = 1) by omega), u_ne (show ¬ (1 = 5 ∧ 4 = b) by omega), u_ne (show ¬ (1 = 5 ∧ 1 = b) by omega), k2, k8, kb b hb, em]
      rw [up_ne (show 8 ≠ 2 by omega), up_ne (show 8 ≠ 95 + b by omega), up_ne (show 2 ≠ 95 + b by omega)]
      exact A
  | succ c ih =>
    intro b x N N' hx hb hN hN'
    obtain ⟨N, rfl⟩ : ∃ n', N = n' + 1 := ⟨N - 1, by omega⟩
    obtain ⟨N', rfl⟩ : ∃ n', N' = n' + 1 := ⟨N' - 1, by omega⟩
    have q5 : ¬ (5 : Int32) ≤ Int32.ofNat x := n_nle (a := 5) (by omega) (by omega) (by omega)
    rw [fn_79_4, fn_87_4, if_neg q5, if_neg q5, bx, bx, rw_at_nI hb (by decide), rw_at_nI (show x < 5 by omega) (by decide), if_neg (n_bad (by decide) (by omega)), if_neg (n_bad (by decide) (by omega)), c_ofNat (by omega), c_ofNat (by omega), kb b hb, kb x (by omega), nI_up]
    by_cases z : D' 322 (95 + x) ≤ D' 322 (95 + b)
    · rw [if_pos z, if_pos z]
      exact ih _ _ _ _ (by omega) hb (by omega) (by omega)
    · rw [if_neg z, if_neg z]
      exact ih _ _ _ _ (by omega) (by omega) (by omega) (by omega)
/-- one beat -/
theorem beat_step {B : Nat} {D D' : am_DD} (h : st_ok B (D' 322) (st_v D 1)) : ∃ D1 D1', (∀ N x1 x2 x3, ¬ x1 ≤ x3 → fn_80_10 (N + 1) x1 x2 x3 D = fn_80_10 N x1 x2 (x3 + 1) D1) ∧ (∃ y, fn_88 D' = some (y, D1')) ∧ st_ok (B + 1) (D1' 322) (st_v D1 1) ∧ (∀ a, 33 ≤ a → D1 a = D a) ∧ ∀ a, a ≠ 322 → D1' a = D' a := by
  have A0 := st_beat h
  obtain ⟨m, n, st, kp, o, hb', nb, r, e1, e2, gs, b, rs⟩ := id h
  have k0 : D 1 0 = D' 322 0 := (r.1 0 (by omega)).symm
  have k3 : D' 322 3 = D 19 0 := r.1 3 (by omega)
  have b40 := st_n40 b
  have n19 : D 19 0 = Int32.ofNat n := k3.symm.trans b.1
  have A1 : st_ok (B + 1) (am_upd D' 322 0 (D' 322 0 + 1) 322) (vE (am_upd D 1 0 (D 1 0 + 1)) 0 0 n) := by
    refine st_congr (fun j _ => by rw [up_row]) (fun o' j _ => ?_) A0
    rw [k0, ← st_v_up (D := D) (r' := 1) (r := 0) rfl]
    by_cases h18 : o' = 18
    · subst h18
      rw [vE_18]
      by_cases hj : j = 0
      · rw [if_pos hj, hj]
        unfold st_v
        rw [u_ne (by omega), n19, show n - (0 - 0) = n by omega]
      · rw [if_neg hj]
        rfl
    · by_cases hb : o' = 20 ∨ o' = 22 ∨ o' = 24
      · rw [vE_hi hb (by omega)]
        rfl
      · rw [vE_ne hb h18]
        rfl
  obtain ⟨D2, D2', w', N2, c1, c2, c3, c4, c5, c6, c7⟩ := balls_loop b40 n 0 0 100000 100000 _ _ (by omega) (by omega) (by omega) (by omega) A1
  obtain ⟨D3, D3', d1, d2, d3, d4, d5⟩ := drop_step c5
  obtain ⟨D4, D4', f1, f2, f3, f4, f5⟩ := lift_step d3 4 0 1 100000 100000 (by omega) (by omega) (by omega) (by omega)
  have f1' : fn_79_4 100000 0 1 D3 = some (0, D4) := f1
  have f2' : fn_87_4 100000 0 1 D3' = some (0, D4') := f2
  have c1' : fn_76_12 100000 (Int32.ofNat n) 0 0 (am_upd D 1 0 (D 1 0 + 1)) = some (0, D2) := c1
  have c2' : fn_88_12 100000 0 (am_upd D' 322 0 (D' 322 0 + 1)) = fn_88_12 (N2 + 1) (Int32.ofNat w') D2' := c2
  refine ⟨D4, D4', fun N x1 x2 x3 hx => ?_, ⟨0, ?_⟩, f3, fun a ha => ?_, fun a ha => ?_⟩
  · rw [fn_80_10, if_neg hx]
    unfold fn_76 am_F
    rw [u_ne (show ¬ (19 = 1 ∧ 0 = 0) by omega), n19, c1']
    dsimp only
    rw [d1]
    dsimp only
    unfold fn_79 am_F
    rw [f1']
  · unfold fn_88 am_F
    rw [c2', d2 _ _ (by rw [c3]; exact n_ile (by omega) (by omega) (Nat.le_refl _))]
    unfold fn_87 am_F
    rw [f2']
  · rw [f4 a ha, d4 a ha, c6 a ha, u_row (by omega)]
  · rw [f5 a ha, d5 a ha, c7 a ha, u_row ha]
/-- beats on end -/
theorem play_n {x2 : Int32} {p : Nat} (hp : p < 1000) : ∀ (c B x N N' : Nat) (D D' : am_DD), x + c = p → c < N → c < N' → st_ok B (D' 322) (st_v D 1) → ∃ y D1 D1', fn_80_10 N (Int32.ofNat p) x2 (Int32.ofNat x) D = some (y, D1) ∧ fn_89_10 N' (Int32.ofNat p) x2 (Int32.ofNat x) D' = some (y, D1') ∧ st_ok (B + c) (D1' 322) (st_v D1 1) ∧ (∀ a, 33 ≤ a → D1 a = D a) ∧ ∀ a, a ≠ 322 → D1' a = D' a := by
  intro c
  induction c with
  | zero =>
    intro B x N N' D D' hx hN hN' h
    obtain ⟨N, rfl⟩ : ∃ n', N = n' + 1 := ⟨N - 1, by omega⟩
    obtain ⟨N', rfl⟩ : ∃ n', N' = n' + 1 := ⟨N' - 1, by omega⟩
    have k9 : D' 322 9 = D 26 2 := by
      obtain ⟨m, n, st, kp, o, hb', nb, r, -⟩ := h
      exact r.1 9 (by omega)
    have q : Int32.ofNat p ≤ Int32.ofNat x := n_ile (by omega) (by omega) (by omega)
    refine ⟨D 26 2 - x2, D, D', ?_, ?_, h, fun _ _ => rfl, fun _ _ => rfl⟩
    · rw [fn_80_10, if_pos q]
    · rw [fn_89_10, if_pos q, k9]
  | succ c ih =>
    intro B x N N' D D' hx hN hN' h
    obtain ⟨N, rfl⟩ : ∃ n', N = n' + 1 := ⟨N - 1, by omega⟩
    obtain ⟨N', rfl⟩ : ∃ n', N' = n' + 1 := ⟨N' - 1, by omega⟩
    have q : ¬ Int32.ofNat p ≤ Int32.ofNat x := n_nle (by omega) (by omega) (by omega)
    obtain ⟨D1, D1', b1, ⟨y, b2⟩, b3, b4, b5⟩ := beat_step h
    obtain ⟨y', D2, D2', c1, c2, c3, c4, c5⟩ := ih (B + 1) (x + 1) N N' D1 D1' (by omega) (by omega) (by omega) b3
    refine ⟨y', D2, D2', ?_, ?_, by rw [show B + (c + 1) = B + 1 + c by omega]; exact c3, fun a ha => (c4 a ha).trans (b4 a ha), fun a ha => (c5 a ha).trans (b5 a ha)⟩
    · rw [b1 N _ _ _ q, nI_up]
      exact c1
    · rw [fn_89_10, if_neg q, b2]
      dsimp only
      rw [nI_up]
      exact c2
theorem play {B p : Nat} {D D' : am_DD} (hp : p ≤ 50) (h : st_ok B (D' 322) (st_v D 1)) : ∃ y D1 D1', fn_80 (Int32.ofNat p) D = some (y, D1) ∧ fn_89 (Int32.ofNat p) D' = some (y, D1') ∧ st_ok (B + p) (D1' 322) (st_v D1 1) ∧ (∀ a, 33 ≤ a → D1 a = D a) ∧ ∀ a, a ≠ 322 → D1' a = D' a := by
  have k9 : D' 322 9 = D 26 2 := by
    obtain ⟨m, n, st, kp, o, hb', nb, r, -⟩ := h
    exact r.1 9 (by omega)
  unfold fn_80 fn_89 am_F
  rw [k9]
  exact play_n (by omega) p B 0 100000 100000 D D' (by omega) (by omega) (by omega) h
set_option maxHeartbeats 1000000 in
theorem op_6 {k : Nat} {D : am_DD} (a : Int32) (hi : in_ok k D) : in_wr (hmf 1 0 0) k (fn_81 a D) (fn_90 a) := by
  have l1 := i_lt a 1
  have l50 := i_le a 50
  rw [l_1] at l1
  rw [l_50] at l50
  by_cases h1 : rng a (1 : Int32).toInt (50 : Int32).toInt
  · have h1' : 1 ≤ a.toInt ∧ a.toInt ≤ 50 := by rw [l_1, l_50] at h1; exact h1
    obtain ⟨p, rfl, hp, hp31⟩ := rng_nat (a := a) (hi := 50) ⟨by omega, by omega⟩
    have n1 : ¬ Int32.ofNat p < 1 := fun z => by have := l1.mp z; omega
    have n9 : Int32.ofNat p ≤ 50 := l50.mpr (by omega)
    obtain ⟨Dh, y, D1, D4, D5, u1, u2, u3, u4, u5, u6, u7, u8⟩ := in_und2 hi (fC := fn_80 (Int32.ofNat p)) (fM := fn_89 (Int32.ofNat p)) (by
      intro Dh hh hok
      obtain ⟨y, D1, D1', b1, b2, b3, b4, b5⟩ := play (p := p) (D := Dh) (D' := Dh) (by omega) hok
      refine ⟨y, D1, b1, b4, fun D4 c2 => ?_⟩
      obtain ⟨y', Da, Db, e1, e2, e3, e4, e5⟩ := play (p := p) (D := Dh) (D' := D4) (by omega) (by rw [c2]; exact hok)
      have x := Prod.mk.inj (Option.some.inj (b1.symm.trans e1))
      rw [← x.2] at e3
      exact ⟨Db, by rw [x.1]; exact e2, e5, _, _, st_mono (by omega) e3, fun _ _ => rfl, fun _ _ _ => rfl⟩)
    refine ⟨y, 0, D1, ?_, Or.inl ⟨rfl, D5, ?_, u5, u6, u7⟩⟩
    · unfold fn_81
      simp only [if_neg n1, if_pos n9, u1, u2]
    · unfold fn_90
      simp only [fn_26_b, b01_t h1, i10, fn_29_0, not_false_eq_true, if_true, if_false, u3, u4]
  · refine in_no (kk := 1) (y := 0) (b := 0) hi ?_ (by omega) (by decide) ?_
    · unfold fn_81
      by_cases q1 : a < 1
      · simp only [if_pos q1]
      · have q9 : ¬ a ≤ 50 := fun z => h1 ⟨by have := mt l1.mpr q1; rw [l_1]; omega, by rw [l_50]; exact l50.mp z⟩
        simp only [if_neg q1, if_neg q9]
    · unfold fn_90
      simp only [fn_26_b, b01_f h1, fn_29_1, not_true, if_true, if_false]
      rfl
