/-! what the law calls: areGates, holds -/
theorem sm_cn {f : Nat → Nat} {m : Nat} : ∀ n, (∀ r, r < n → f r < m) → sm (fun g => cn f g n) m = n := by
  intro n
  induction n with
  | zero =>
    intro _
    have : ∀ k, sm (fun g => cn f g 0) k = 0 := by
      intro k
      induction k with
      | zero => rfl
      | succ k ih => unfold sm; rw [ih]; rfl
    exact this m
  | succ n ih =>
    intro h
    have h1 := ih (fun r hr => h r (by omega))
    have h2 := sm_up (f := fun g => cn f g n) (f' := fun g => cn f g (n + 1)) (g0 := f n) (by show cn f (f n) n + (if f n = f n then 1 else 0) = cn f (f n) n + 1; rw [if_pos rfl]) (fun g hg => by show cn f g n + (if f n = g then 1 else 0) = cn f g n; rw [if_neg (fun z => hg z.symm), Nat.add_zero]) (h n (by omega))
    rw [h2, h1]
section HOLD
variable {A : nD} {D : am_DD} {B : Nat}
set_option maxHeartbeats 4000000 in
theorem lp_45 (h : rel A D) (hi : inv A) (hb : bnd B A) : ∀ (c i N : Nat), i + c = A 8 0 → c < N → fn_45_6 N (Int32.ofNat (sm (lvs A) i)) (Int32.ofNat (sm (fun g => cn (A 21) g (A 19 0)) i)) (Int32.ofNat i) D = some (1, D) := by
  have hm := hi.1.1
  have hn : A 19 0 ≤ 40 := by have := hi.2.1.1; omega
  obtain ⟨b1, b2, b3, b4, b5⟩ := hb
  intro c
  induction c with
  | zero =>
    intro i N hic hN
    obtain ⟨N, rfl⟩ := succ_of hN
    have e : i = A 8 0 := by omega
    subst e
    have e1 : sm (fun g => cn (A 21) g (A 19 0)) (A 8 0) = A 19 0 := sm_cn _ (fun r hr => (hi.2.1.2.2.1 r hr).1)
    have q1 : Int32.ofNat (A 8 0) ≤ Int32.ofNat (A 8 0) := ile (by omega) (by omega) (Nat.le_refl _)
    rw [fn_45_6, e1, ← hi.2.2.1.1]
    simp only [c_1 h, c_3 h, c_9 h, if_true, q1, not_true, if_false]
  | succ c ih =>
    intro i N hic hN
    obtain ⟨N, rfl⟩ := succ_of hN
    have hg : i < A 8 0 := by omega
    obtain ⟨p1, p2, p3, p4⟩ := hi.1.2.1 i hg
    have t0 := hi.1.2.2.1 i 0 hg (by omega)
    have t1 := hi.1.2.2.1 i 1 hg (by omega)
    rw [Nat.add_zero] at t0
    have lb : lvs A i ≤ A 26 2 := by rw [hi.2.2.1.1]; exact sm_le hg
    have tb := b2 i (by omega)
    have lv2 : A 18 (2 * i) + A 18 (2 * i + 1) = lvs A i := rfl
    have q0 : ¬ Int32.ofNat (A 8 0) ≤ Int32.ofNat i := nle (by omega) (by omega) hg
    have em : Int32.ofNat (lvs A i + A 14 i) - Int32.ofNat (lvs A i + A 14 i) / 2 * 2 = Int32.ofNat (A 10 i) := by
      have := n_mod (a := lvs A i + A 14 i) (b := 2) (by omega) (by omega) (by omega)
      rw [p3]
      exact this
    have s0 : ¬ Int32.ofNat (A 16 (2 * i)) ≤ Int32.ofNat i := nle (by omega) (by omega) t0.1
    have s1 : ¬ Int32.ofNat (A 16 (2 * i + 1)) ≤ Int32.ofNat i := nle (by omega) (by omega) t1.1
    have u1 : sm (lvs A) (i + 1) = sm (lvs A) i + lvs A i := rfl
    have u2 : sm (fun g => cn (A 21) g (A 19 0)) (i + 1) = sm (fun g => cn (A 21) g (A 19 0)) i + cn (A 21) i (A 19 0) := rfl
    have nxt := ih (i + 1) N (by omega) (by omega)
    rw [u1, u2] at nxt
    have bins : ∀ t : Nat, (t < A 8 0 ∨ (20 ≤ t ∧ t < 25)) → ¬ t < A 8 0 → ¬ Int32.ofNat t ≤ 19 ∧ ¬ 25 ≤ Int32.ofNat t := fun t ht hn => ⟨nle (b := 19) (by omega) (by omega) (by omega), nle (a := 25) (by omega) (by omega) (by omega)⟩
    have tail : (if Int32.ofNat (A 16 (2 * i)) < Int32.ofNat (A 8 0) then (if Int32.ofNat (A 16 (2 * i + 1)) < Int32.ofNat (A 8 0) then fn_45_6 N (Int32.ofNat (sm (lvs A) i + lvs A i)) (Int32.ofNat (sm (fun g => cn (A 21) g (A 19 0)) i + cn (A 21) i (A 19 0))) (Int32.ofNat (i + 1)) D else (if Int32.ofNat (A 16 (2 * i + 1)) ≤ 19 then some (0, D) else (if 25 ≤ Int32.ofNat (A 16 (2 * i + 1)) then some (0, D) else fn_45_6 N (Int32.ofNat (sm (lvs A) i + lvs A i)) (Int32.ofNat (sm (fun g => cn (A 21) g (A 19 0)) i + cn (A 21) i (A 19 0))) (Int32.ofNat (i + 1)) D))) else (if Int32.ofNat (A 16 (2 * i)) ≤ 19 then some (0, D) else (if 25 ≤ Int32.ofNat (A 16 (2 * i)) then some (0, D) else (if Int32.ofNat (A 16 (2 * i + 1)) < Int32.ofNat (A 8 0) then fn_45_6 N (Int32.ofNat (sm (lvs A) i + lvs A i)) (Int32.ofNat (sm (fun g => cn (A 21) g (A 19 0)) i + cn (A 21) i (A 19 0))) (Int32.ofNat (i + 1)) D else (if Int32.ofNat (A 16 (2 * i + 1)) ≤ 19 then some (0, D) else (if 25 ≤ Int32.ofNat (A 16 (2 * i + 1)) then some (0, D) else fn_45_6 N (Int32.ofNat (sm (lvs A) i + lvs A i)) (Int32.ofNat (sm (fun g => cn (A 21) g (A 19 0)) i + cn (A 21) i (A 19 0))) (Int32.ofNat (i + 1)) D)))))) = some (1, D) := by
      have tl1 : (if Int32.ofNat (A 16 (2 * i + 1)) < Int32.ofNat (A 8 0) then fn_45_6 N (Int32.ofNat (sm (lvs A) i + lvs A i)) (Int32.ofNat (sm (fun g => cn (A 21) g (A 19 0)) i + cn (A 21) i (A 19 0))) (Int32.ofNat (i + 1)) D else (if Int32.ofNat (A 16 (2 * i + 1)) ≤ 19 then some (0, D) else (if 25 ≤ Int32.ofNat (A 16 (2 * i + 1)) then some (0, D) else fn_45_6 N (Int32.ofNat (sm (lvs A) i + lvs A i)) (Int32.ofNat (sm (fun g => cn (A 21) g (A 19 0)) i + cn (A 21) i (A 19 0))) (Int32.ofNat (i + 1)) D))) = some (1, D) := by
        by_cases z : A 16 (2 * i + 1) < A 8 0
        · rw [if_pos (ilt (by omega) (by omega) z)]
          exact nxt
        · obtain ⟨x1, x2⟩ := bins _ t1.2 z
          rw [if_neg (nlt (by omega) (by omega) (by omega)), if_neg x1, if_neg x2]
          exact nxt
      by_cases z : A 16 (2 * i) < A 8 0
      · rw [if_pos (ilt (by omega) (by omega) z)]
        exact tl1
      · obtain ⟨x1, x2⟩ := bins _ t0.2 z
        rw [if_neg (nlt (by omega) (by omega) (by omega)), if_neg x1, if_neg x2]
        exact tl1
    rw [fn_45_6]
    simp only [c_1 h, g_4 h hm hg, g_5 h hm hg, g_7 h hm hg, g_6 h hi hg, g_0 h hm hg, g_2 h hm hg, g_3 h hm hg, if_true, q0, if_false, n_add, em, not_true, s0, s1, nI_up, lv2]
    by_cases z : A 14 i = 0
    · have z1 : ¬ (0 : Int32) < Int32.ofNat (A 14 i) := nlt (a := 0) (by omega) (by omega) (by omega)
      have es : Int32.ofNat (A 18 (2 * i)) - Int32.ofNat (A 18 (2 * i + 1)) = Int32.ofNat (A 10 i) := by
        have q := p4 z
        rw [n_sub (by omega) (by omega), show A 18 (2 * i) - A 18 (2 * i + 1) = A 10 i by omega]
      simp only [z1, if_false, es, not_true]
      exact tail
    · have z1 : (0 : Int32) < Int32.ofNat (A 14 i) := ilt (a := 0) (by omega) (by omega) (by omega)
      simp only [z1, if_true]
      exact tail
theorem h_gates (h : rel A D) (hi : inv A) (hb : bnd B A) : fn_45 D = some (1, D) := lp_45 h hi hb (A 8 0) 0 100000 (by omega) (by have := hi.1.1; omega)
/-! holds -/
theorem lp_48_33 (h : rel A D) (hg : ig A) {x4 x5 : Int32} : ∀ (c i N x1 x2 x3 y1 y2 y3 : Nat), i + c = 5 → c < N → y1 + sm (A 5) i = x1 + sm (A 5) 5 → y2 + sm (A 7) i = x2 + sm (A 7) 5 → y3 + sm (fun b => ex A b (A 8 0)) i = x3 + sm (fun b => ex A b (A 8 0)) 5 →
    fn_48_33 N (Int32.ofNat x1) (Int32.ofNat x2) (Int32.ofNat x3) x4 x5 (Int32.ofNat i) D = fn_48_78 am_F (Int32.ofNat y1) (Int32.ofNat y2) (Int32.ofNat y3) x4 x5 0 D := by
  intro c
  induction c with
  | zero =>
    intro i N x1 x2 x3 y1 y2 y3 hic hN e1 e2 e3
    obtain ⟨N, rfl⟩ := succ_of hN
    have e : i = 5 := by omega
    subst e
    have q5 : (5 : Int32) ≤ Int32.ofNat 5 := by decide
    rw [fn_48_33, if_pos q5, show y1 = x1 by omega, show y2 = x2 by omega, show y3 = x3 by omega]
  | succ c ih =>
    intro i N x1 x2 x3 y1 y2 y3 hic hN e1 e2 e3
    obtain ⟨N, rfl⟩ := succ_of hN
    have q5 : ¬ (5 : Int32) ≤ Int32.ofNat i := nle (a := 5) (by omega) (by omega) (by omega)
    have hb : i < 5 := by omega
    have u1 : sm (A 5) (i + 1) = sm (A 5) i + A 5 i := rfl
    have u2 : sm (A 7) (i + 1) = sm (A 7) i + A 7 i := rfl
    have u3 : sm (fun b => ex A b (A 8 0)) (i + 1) = sm (fun b => ex A b (A 8 0)) i + ex A i (A 8 0) := rfl
    rw [fn_48_33]
    simp only [q5, if_false, b_0 h hb, b_1 h hb, b_2 h hg hb, if_true, n_add, nI_up]
    exact ih (i + 1) N _ _ _ y1 y2 y3 (by omega) (by omega) (by omega) (by omega) (by omega)
set_option maxHeartbeats 2000000 in
theorem lp_48_78 (h : rel A D) (hi : inv A) (hb : bnd B A) {X1 X2 X3 x5 : Int32} : ∀ (c i N last : Nat), i + c = A 19 0 → c < N → (∀ r, r < A 19 0 → i ≤ r → last < A 23 r) → last < 2 ^ 24 →
    fn_48_78 N X1 X2 X3 (Int32.ofNat last) x5 (Int32.ofNat i) D = fn_48_196 am_F X1 X2 X3 x5 0 D := by
  have hm := hi.1.1
  have hn : A 19 0 ≤ 40 := by have := hi.2.1.1; omega
  obtain ⟨b1, b2, b3, b4, b5⟩ := hb
  intro c
  induction c with
  | zero =>
    intro i N last hic hN hl hl2
    obtain ⟨N, rfl⟩ := succ_of hN
    have q1 : Int32.ofNat (A 19 0) ≤ Int32.ofNat i := ile (by omega) (by omega) (by omega)
    rw [fn_48_78]
    simp only [c_3 h, if_true, q1]
  | succ c ih =>
    intro i N last hic hN hl hl2
    obtain ⟨N, rfl⟩ := succ_of hN
    have hr : i < A 19 0 := by omega
    obtain ⟨p1, p2, p3, p4⟩ := hi.2.1.2.2.1 i hr
    obtain ⟨z, z1, z2, z3⟩ := bl_3 h hi hr
    obtain ⟨b, y1, y2⟩ := bl_4 h hi hr
    have hlast := hl i hr (Nat.le_refl _)
    have q0 : ¬ Int32.ofNat (A 19 0) ≤ Int32.ofNat i := nle (by omega) (by omega) hr
    have q1 : ¬ Int32.ofNat z < 1 := nlt (b := 1) (by omega) (by omega) z2
    have q2 : ¬ (Int32.ofNat (A 8 0) - Int32.ofNat (A 21 i)) < Int32.ofNat z := by
      rw [n_sub (by omega) (by omega)]
      exact nlt (by omega) (by omega) z3
    have q3 : ¬ Int32.ofNat (A 23 i) ≤ Int32.ofNat last := nle (by omega) (by omega) hlast
    have q4 : ¬ Int32.ofNat (A 1 0) < Int32.ofNat (A 23 i) := nlt (by omega) (by omega) p4
    have q5 : ¬ Int32.ofNat b < 0 := nI_pos (n := b) (by omega)
    have q6 : Int32.ofNat (A 25 i) ≤ Int32.ofNat (A 21 i) := ile (by omega) (by omega) p2
    rw [fn_48_78]
    simp only [c_3 h, c_1 h, c_0 h, z1, y1, bl_0 h hi hr, bl_1 h hi hr, bl_2 h hi hr, if_true, q0, q1, q2, q3, q4, q5, q6, if_false, nI_up]
    exact ih (i + 1) N (A 23 i) (by omega) (by omega) (fun r h1 h2 => hi.2.1.2.2.2 i r (by omega) h1) (by omega)
set_option maxHeartbeats 2000000 in
theorem lp_48_196 (h : rel A D) (hi : inv A) (hb : bnd B A) {X1 X2 X3 : Int32} {D' : am_DD} (hE : ∀ N, fn_48_196 (N + 1) X1 X2 X3 (Int32.ofNat (A 26 1)) (Int32.ofNat (A 26 1)) D = some (1, D')) : ∀ (c i N : Nat), i + c = A 26 1 → c < N → fn_48_196 N X1 X2 X3 (Int32.ofNat (A 26 1)) (Int32.ofNat i) D = some (1, D') := by
  have hkp := im_kp hi.2.2.1
  obtain ⟨b1, b2, b3, b4, b5⟩ := hb
  intro c
  induction c with
  | zero =>
    intro i N hic hN
    obtain ⟨N, rfl⟩ := succ_of hN
    rw [show i = A 26 1 by omega]
    exact hE N
  | succ c ih =>
    intro i N hic hN
    obtain ⟨N, rfl⟩ := succ_of hN
    have hk : i < A 26 1 := by omega
    have q0 : ¬ Int32.ofNat (A 26 1) ≤ Int32.ofNat i := nle (by omega) (by omega) hk
    obtain ⟨y, y1, y2⟩ := ch_of h hi.2.2.1 (by omega) (q := A 26 1 - 1 - i) (by omega)
    have hq := hi.2.2.1.2.2.2.1 (A 26 1 - 1 - i) (by omega)
    have nxt := ih (i + 1) N (by omega) (by omega)
    rw [fn_48_196]
    simp only [q0, if_false, n_0 h hi.2.2.1 hk, n_2 h hi.2.2.1 hk, if_true, y1, y2, nI_up]
    by_cases z : i = 0
    · have q1 : Int32.ofNat i ≤ 0 := ile (b := 0) (by omega) (by omega) (by omega)
      simp only [q1, if_true]
      exact nxt
    · have q1 : ¬ Int32.ofNat i ≤ 0 := nle (b := 0) (by omega) (by omega) (by omega)
      have e1 : Int32.ofNat i - 1 = Int32.ofNat (i - 1) := n_sub (b := 1) (by omega) (by omega)
      have hq2 := hi.2.2.1.2.2.2.1 (A 26 1 - 1 - (i - 1)) (by omega)
      have q2 : Int32.ofNat (nb A (A 26 1 - 1 - i)) ≤ Int32.ofNat (nb A (A 26 1 - 1 - (i - 1))) := ile (by omega) (by omega) (hi.2.2.1.2.2.2.2 _ _ (by omega) (by omega))
      simp only [q1, if_false, e1, n_0 h hi.2.2.1 (show i - 1 < A 26 1 by omega), if_true, q2]
      exact nxt
set_option maxHeartbeats 4000000 in
theorem h_end (h : rel A D) (hi : inv A) (hb : bnd B A) {X3 : Nat} (hX3 : X3 ≤ 2 * A 8 0) : ∃ D', rel A D' ∧ ∀ N, fn_48_196 (N + 1) 40 (Int32.ofNat (A 1 3)) (Int32.ofNat X3) (Int32.ofNat (A 26 1)) (Int32.ofNat (A 26 1)) D = some (1, D') := by
  have hm := hi.1.1
  have hkp := im_kp hi.2.2.1
  obtain ⟨D1, d1, r1⟩ := w_0 h hi.1
  obtain ⟨D2, d2, r2⟩ := w_1 r1 hi.1
  obtain ⟨D3, d3, r3⟩ := w_0 r2 hi.1
  obtain ⟨y, D4, d4, hy, r4⟩ := no_3 r3 hi.2.2.1
  have wb0 := wy_b (mx := false) hi.1
  have wb1 := wy_b (mx := true) hi.1
  have wl := wy_le (A := A)
  have wp := wy_pos (A := A) (mx := false)
  have hsum := stc_sum (f := np A) (A 26 1)
  have hgt := h_gates h hi hb
  obtain ⟨b1, b2, b3, b4, b5⟩ := hb
  refine ⟨D4, r4, fun N => ?_⟩
  have q0 : Int32.ofNat (A 26 1) ≤ Int32.ofNat (A 26 1) := ile (by omega) (by omega) (Nat.le_refl _)
  have e2 : (2 : Int32) * Int32.ofNat (A 8 0) = Int32.ofNat (2 * A 8 0) := n_mul 2 _
  have q1 : ¬ Int32.ofNat (2 * A 8 0) < Int32.ofNat X3 := nlt (by omega) (by omega) hX3
  have q2 : ¬ Int32.ofNat (wy true A) < Int32.ofNat (wy false A) := nlt (by omega) (by omega) wl
  have q3 : ¬ Int32.ofNat (A 26 1) < Int32.ofNat y := nlt (by omega) (by omega) hy
  generalize hu : stc (fun a b => decide (b < a)) (np A) (A 26 1) = u at hsum
  generalize hv : stc (fun a b => decide (a < b)) (np A) (A 26 1) = v at hsum
  have n5 := no_5 r4 hi.2.2.1
  have n6 := no_6 r4 hi.2.2.1
  rw [hu] at n5
  rw [hv] at n6
  have fin : (if ¬ Int32.ofNat (A 26 1) = 0 then (if (Int32.ofNat (A 26 1) - 1) < Int32.ofNat (u + v) then some ((0 : Int32), D4) else some (1, D4)) else (if 0 < Int32.ofNat (u + v) then some (0, D4) else some (1, D4))) = some (1, D4) := by
    by_cases z : A 26 1 = 0
    · have z1 : Int32.ofNat (A 26 1) = 0 := by rw [z]; rfl
      have z2 : ¬ (0 : Int32) < Int32.ofNat (u + v) := nlt (a := 0) (by omega) (by omega) (by omega)
      rw [if_neg (not_not_intro z1), if_neg z2]
    · have z1 : ¬ Int32.ofNat (A 26 1) = 0 := ine (b := 0) (by omega) (by omega) z
      have z2 : Int32.ofNat (A 26 1) - 1 = Int32.ofNat (A 26 1 - 1) := n_sub (b := 1) (by omega) (by omega)
      rw [if_pos z1, z2, if_neg (nlt (by omega) (by omega) (by omega))]
  have i10 : ¬ (1 : Int32) = 0 := by decide
  have i11 : ¬ ¬ (-1 : Int32) = -1 := by decide
  rw [fn_48_196, if_pos q0, if_neg (by decide)]
  simp only [c_7 h, c_1 h, c_9 h, hgt, n_end h hi.2.2.1, if_true, e2, q1, if_false, i10, not_true]
  by_cases z : 60 ≤ A 26 2
  · have z1 : (60 : Int32) ≤ Int32.ofNat (A 26 2) := ile (a := 60) (by omega) (by omega) z
    have z2 : A 26 1 = 60 := by rw [hi.2.2.1.2.1]; omega
    have z3 : ¬ ¬ Int32.ofNat (A 26 1) = 60 := not_not_intro (by rw [z2]; rfl)
    rw [if_pos z1, if_neg z3]
    rw [d1]
    dsimp only
    rw [d2]
    dsimp only
    rw [if_neg q2, d3]
    dsimp only
    by_cases z : A 8 0 = 0
    · have y1 : Int32.ofNat (wy false A) ≤ 0 := ile (b := 0) (by omega) (by omega) (by omega)
      have y2 : Int32.ofNat (A 8 0) ≤ 0 := ile (b := 0) (by omega) (by omega) (by omega)
      simp only [y1, if_true, c_1 r3, y2, d4, q3, if_false, n5, n6, n_add]
      exact fin
    · have y1 : ¬ Int32.ofNat (wy false A) ≤ 0 := nle (b := 0) (by omega) (by omega) (by omega)
      have y2 : ¬ Int32.ofNat (A 8 0) ≤ 0 := nle (b := 0) (by omega) (by omega) (by omega)
      simp only [y1, if_true, c_1 r3, y2, d4, q3, if_false, n5, n6, n_add]
      exact fin
  · have z1 : ¬ (60 : Int32) ≤ Int32.ofNat (A 26 2) := nle (a := 60) (by omega) (by omega) (by omega)
    have z2 : A 26 1 = A 26 2 := by rw [hi.2.2.1.2.1]; omega
    have z3 : ¬ ¬ Int32.ofNat (A 26 1) = Int32.ofNat (A 26 2) := not_not_intro (by rw [z2])
    rw [if_neg z1, if_neg z3]
    rw [d1]
    dsimp only
    rw [d2]
    dsimp only
    rw [if_neg q2, d3]
    dsimp only
    by_cases z : A 8 0 = 0
    · have y1 : Int32.ofNat (wy false A) ≤ 0 := ile (b := 0) (by omega) (by omega) (by omega)
      have y2 : Int32.ofNat (A 8 0) ≤ 0 := ile (b := 0) (by omega) (by omega) (by omega)
      simp only [y1, if_true, c_1 r3, y2, d4, q3, if_false, n5, n6, n_add]
      exact fin
    · have y1 : ¬ Int32.ofNat (wy false A) ≤ 0 := nle (b := 0) (by omega) (by omega) (by omega)
      have y2 : ¬ Int32.ofNat (A 8 0) ≤ 0 := nle (b := 0) (by omega) (by omega) (by omega)
      simp only [y1, if_true, c_1 r3, y2, d4, q3, if_false, n5, n6, n_add]
      exact fin
theorem h_holds (h : rel A D) (hi : inv A) (hb : bnd B A) : ∃ D', fn_48 D = some (1, D') ∧ rel A D' := by
  have hkp := im_kp hi.2.2.1
  have hb1 := hi.2.1.1
  have hb2 := hi.2.1.2.1
  have s5 : sm (A 5) 5 = A 5 0 + A 5 1 + A 5 2 + A 5 3 + A 5 4 := by simp only [sm]; omega
  have s7 : sm (A 7) 5 = A 7 0 + A 7 1 + A 7 2 + A 7 3 + A 7 4 := by simp only [sm]; omega
  have sx : sm (fun b => ex A b (A 8 0)) 5 ≤ 2 * A 8 0 := by
    have := ex_sum (A := A) (A 8 0)
    simp only [sm]
    omega
  obtain ⟨D', r', hE⟩ := h_end h hi hb sx
  refine ⟨D', ?_, r'⟩
  have l1 := lp_48_33 h hi.1 (x4 := 0) (x5 := Int32.ofNat (A 26 1)) 5 0 100000 (A 1 1 + A 19 0) (A 19 0) 0 40 (A 1 3) (sm (fun b => ex A b (A 8 0)) 5) (by omega) (by omega) (by rw [s5]; simp only [sm]; omega) (by rw [s7]; simp only [sm]; omega) (by simp only [sm]; omega)
  have l1' : fn_48_33 100000 (Int32.ofNat (A 1 1 + A 19 0)) (Int32.ofNat (A 19 0)) 0 0 (Int32.ofNat (A 26 1)) 0 D = fn_48_78 100000 40 (Int32.ofNat (A 1 3)) (Int32.ofNat (sm (fun b => ex A b (A 8 0)) 5)) 0 (Int32.ofNat (A 26 1)) 0 D := l1
  have l2 := lp_48_78 h hi hb (X1 := 40) (X2 := Int32.ofNat (A 1 3)) (X3 := Int32.ofNat (sm (fun b => ex A b (A 8 0)) 5)) (x5 := Int32.ofNat (A 26 1)) (A 19 0) 0 100000 0 (by omega) (by omega) (fun r hr _ => by have := (hi.2.1.2.2.1 r hr).2.2.1; omega) (by omega)
  have l2' : fn_48_78 100000 40 (Int32.ofNat (A 1 3)) (Int32.ofNat (sm (fun b => ex A b (A 8 0)) 5)) 0 (Int32.ofNat (A 26 1)) 0 D = fn_48_196 100000 40 (Int32.ofNat (A 1 3)) (Int32.ofNat (sm (fun b => ex A b (A 8 0)) 5)) (Int32.ofNat (A 26 1)) 0 D := l2
  have l3 := lp_48_196 h hi hb hE (A 26 1) 0 100000 (by omega) (by omega)
  unfold fn_48 am_F
  simp only [c_2 h, c_3 h, no_0 h, if_true, n_add]
  rw [l1', l2']
  exact l3
end HOLD
