/-! one place for each number of a state -/
def lc (o i : Nat) : Nat × Nat := if i < 11 then (so i, sj i) else if i < 95 then (go ((i - 11) % 7), gj ((i - 11) % 7) ((i - 11) / 7)) else if i < 105 then (4 + 2 * ((i - 95) / 5), (i - 95) % 5) else if i < 225 then (20 + 2 * ((i - 105) % 3), (i - 105) / 3) else (27 + 2 * ((i - 225) % 3), (o + (i - 225) / 3) % 60)
theorem lc_a (o : Nat) {i : Nat} (h : i < 11) : lc o i = (so i, sj i) := by
  unfold lc
  rw [if_pos h]
theorem lc_g (o : Nat) {g w : Nat} (hg : g < 12) (hw : w < 7) : lc o (11 + 7 * g + w) = (go w, gj w g) := by
  unfold lc
  rw [if_neg (by omega), if_pos (by omega), show (11 + 7 * g + w - 11) % 7 = w by omega, show (11 + 7 * g + w - 11) / 7 = g by omega]
theorem lc_b (o : Nat) {b w : Nat} (hb : b < 5) (hw : w < 2) : lc o (95 + 5 * w + b) = (4 + 2 * w, b) := by
  unfold lc
  rw [if_neg (by omega), if_neg (by omega), if_pos (by omega), show (95 + 5 * w + b - 95) / 5 = w by omega, show (95 + 5 * w + b - 95) % 5 = b by omega]
theorem lc_r (o : Nat) {r w : Nat} (hr : r < 40) (hw : w < 3) : lc o (105 + 3 * r + w) = (20 + 2 * w, r) := by
  unfold lc
  rw [if_neg (by omega), if_neg (by omega), if_neg (by omega), if_pos (by omega), show (105 + 3 * r + w - 105) % 3 = w by omega, show (105 + 3 * r + w - 105) / 3 = r by omega]
theorem lc_n (o : Nat) {q w : Nat} (hw : w < 3) : lc o (225 + 3 * q + w) = (27 + 2 * w, (o + q) % 60) := by
  unfold lc
  rw [if_neg (by omega), if_neg (by omega), if_neg (by omega), if_neg (by omega), show (225 + 3 * q + w - 225) % 3 = w by omega, show (225 + 3 * q + w - 225) / 3 = q by omega]
theorem lc_lo (o : Nat) {i : Nat} (h : i < 225) : lc o i = lc 0 i := by
  unfold lc
  rw [if_pos h, if_pos h]
def lc_iv (p : Nat × Nat) : Nat := ((List.range 225).find? (fun i => lc 0 i == p)).getD 0
set_option maxRecDepth 100000 in
theorem lc_iv_ok : ∀ i, i < 225 → lc_iv (lc 0 i) = i := by decide +kernel
set_option maxRecDepth 100000 in
theorem lc_row : ∀ i, i < 225 → (lc 0 i).1 < 26 := by decide +kernel
set_option maxRecDepth 100000 in
theorem lc_hit0 : ∀ i, i < 225 → st_hit (lc 0 i).1 (lc 0 i).2 = true := by decide +kernel
theorem lc_hi (o : Nat) {i : Nat} (h : 225 ≤ i) : lc o i = (27 + 2 * ((i - 225) % 3), (o + (i - 225) / 3) % 60) := by
  unfold lc
  rw [if_neg (by omega), if_neg (by omega), if_neg (by omega), if_neg (by omega)]
theorem lc_hit (o : Nat) {i : Nat} (h : i < 405) : st_hit (lc o i).1 (lc o i).2 = true := by
  by_cases h1 : i < 225
  · rw [lc_lo o h1]
    exact lc_hit0 i h1
  · rw [lc_hi o (by omega)]
    exact st_h5 _ (Nat.mod_lt _ (by decide)) _ (Nat.mod_lt _ (by decide))
theorem lc_inj {o i i' : Nat} (h : i < 405) (h' : i' < 405) (e : lc o i = lc o i') : i = i' := by
  by_cases h1 : i < 225
  · by_cases h2 : i' < 225
    · rw [lc_lo o h1, lc_lo o h2] at e
      rw [← lc_iv_ok i h1, ← lc_iv_ok i' h2, e]
    · rw [lc_lo o h1, lc_hi o (by omega)] at e
      have := lc_row i h1
      rw [e] at this
      simp only at this
      omega
  · by_cases h2 : i' < 225
    · rw [lc_lo o h2, lc_hi o (by omega)] at e
      have := lc_row i' h2
      rw [← e] at this
      simp only at this
      omega
    · rw [lc_hi o (by omega), lc_hi o (by omega)] at e
      have e1 := congrArg Prod.fst e
      have e2 := congrArg Prod.snd e
      simp only at e1 e2
      omega
/-- the same numbers where L says so -/
def rl (L : Nat → Prop) (o : Nat) (s : Nat → Int32) (E : Nat → Nat → Int32) : Prop := ∀ i, i < 405 → L i → s i = E (lc o i).1 (lc o i).2
def lv (n kp i : Nat) : Prop := i < 105 ∨ (105 ≤ i ∧ i < 105 + 3 * n) ∨ (225 ≤ i ∧ i < 225 + 3 * kp)
theorem rel_rl {n kp o : Nat} {s : Nat → Int32} {E : Nat → Nat → Int32} (hn : n ≤ 40) (hk : kp ≤ 60) : st_rel n kp o s E ↔ rl (lv n kp) o s E := by
  constructor
  · intro ⟨r1, r2, r3, r4, r5⟩ i hi hL
    by_cases h1 : i < 11
    · rw [lc_a o h1]
      exact r1 i h1
    · by_cases h2 : i < 95
      · have h := r2 ((i - 11) / 7) ((i - 11) % 7) (by omega) (by omega)
        have e := lc_g o (g := (i - 11) / 7) (w := (i - 11) % 7) (by omega) (by omega)
        rw [show 11 + 7 * ((i - 11) / 7) + (i - 11) % 7 = i by omega] at h e
        rw [e]
        exact h
      · by_cases h3 : i < 105
        · have h := r3 ((i - 95) % 5) ((i - 95) / 5) (by omega) (by omega)
          have e := lc_b o (b := (i - 95) % 5) (w := (i - 95) / 5) (by omega) (by omega)
          rw [show 95 + 5 * ((i - 95) / 5) + (i - 95) % 5 = i by omega] at h e
          rw [e]
          exact h
        · by_cases h4 : i < 225
          · unfold lv at hL
            have h := r4 ((i - 105) / 3) ((i - 105) % 3) (by omega) (by omega)
            have e := lc_r o (r := (i - 105) / 3) (w := (i - 105) % 3) (by omega) (by omega)
            rw [show 105 + 3 * ((i - 105) / 3) + (i - 105) % 3 = i by omega] at h e
            rw [e]
            exact h
          · unfold lv at hL
            have h := r5 ((i - 225) / 3) ((i - 225) % 3) (by omega) (by omega)
            have e := lc_n o (q := (i - 225) / 3) (w := (i - 225) % 3) (by omega)
            rw [show 225 + 3 * ((i - 225) / 3) + (i - 225) % 3 = i by omega] at h e
            rw [e]
            exact h
  · intro h
    refine ⟨fun i hi => ?_, fun g w hg hw => ?_, fun b w hb hw => ?_, fun r w hr hw => ?_, fun q w hq hw => ?_⟩
    · have := h i (by omega) (Or.inl (by omega))
      rw [lc_a o hi] at this
      exact this
    · have := h (11 + 7 * g + w) (by omega) (Or.inl (by omega))
      rw [lc_g o hg hw] at this
      exact this
    · have := h (95 + 5 * w + b) (by omega) (Or.inl (by omega))
      rw [lc_b o hb hw] at this
      exact this
    · have := h (105 + 3 * r + w) (by omega) (Or.inr (Or.inl (by omega)))
      rw [lc_r o (by omega) hw] at this
      exact this
    · have := h (225 + 3 * q + w) (by omega) (Or.inr (Or.inr (by omega)))
      rw [lc_n o hw] at this
      exact this
def up (s : Nat → Int32) (i : Nat) (v : Int32) : Nat → Int32 := fun j => if j = i then v else s j
theorem up_self (s : Nat → Int32) (i : Nat) (v : Int32) : up s i v i = v := if_pos rfl
theorem up_ne {s : Nat → Int32} {i j : Nat} {v : Int32} (h : j ≠ i) : up s i v j = s j := if_neg h
theorem up_row (D : am_DD) (a i : Nat) (v : Int32) : am_upd D a i v a = up (D a) i v := by
  funext j
  unfold up
  by_cases h : j = i
  · rw [if_pos h, h, u_self]
  · rw [if_neg h, u_ne (fun z => h z.2)]
theorem rl_up {L : Nat → Prop} {o i0 : Nat} {s : Nat → Int32} {E : Nat → Nat → Int32} (v : Int32) (h0 : i0 < 405) (h : rl L o s E) : rl (fun i => L i ∨ i = i0) o (up s i0 v) (am_upd E (lc o i0).1 (lc o i0).2 v) := by
  intro i hi hL
  by_cases e : i = i0
  · subst e
    rw [up_self, u_self]
  · rw [up_ne e, u_ne (fun z => e (lc_inj hi h0 (Prod.ext z.1 z.2)))]
    exact h i hi (hL.resolve_right e)
theorem rl_sub {L L' : Nat → Prop} {o : Nat} {s : Nat → Int32} {E : Nat → Nat → Int32} (hL : ∀ i, L' i → L i) (h : rl L o s E) : rl L' o s E := fun i hi hl => h i hi (hL i hl)
theorem rl_congr {L : Nat → Prop} {o : Nat} {s s' : Nat → Int32} {E : Nat → Nat → Int32} (hs : ∀ i, i < 405 → s' i = s i) (h : rl L o s E) : rl L o s' E := fun i hi hl => (hs i hi).trans (h i hi hl)
theorem st_gates_congr {m : Nat} {s s' : Nat → Int32} (h1 : s' 1 = s 1) (h2 : ∀ i, 11 ≤ i → i < 95 → s' i = s i) (h : st_gates m s) : st_gates m s' := by
  obtain ⟨g1, g2, g3, g4, g5, g6⟩ := h
  refine ⟨by rw [h1]; exact g1, g2, fun g hg => ?_, fun g hg => ?_, fun g e hg he => ?_, fun g h3 h4 => ?_⟩
  · rw [h2 _ (by omega) (by omega)]; exact g3 g hg
  · rw [h2 _ (by omega) (by omega)]; exact g4 g hg
  · rw [h2 _ (by omega) (by omega)]; exact g5 g e hg he
  · rw [h2 _ (by omega) (by omega), h2 _ (by omega) (by omega), h2 _ (by omega) (by omega), h2 _ (by omega) (by omega)]; exact g6 g h3 h4
theorem st_balls_congr {m n st : Nat} {hb : Nat → Nat} {s s' : Nat → Int32} (h1 : s' 2 = s 2) (h3 : s' 3 = s 3) (h2 : ∀ i, 95 ≤ i → i < 225 → s' i = s i) (h : st_balls m n st hb s) : st_balls m n st hb s' := by
  obtain ⟨b1, b2, b3, b4, b5⟩ := h
  refine ⟨by rw [h3]; exact b1, by rw [h1]; exact b2, fun b hb => ?_, b4, fun r hr => ?_⟩
  · rw [h2 _ (by omega) (by omega)]; exact b3 b hb
  · rw [h2 _ (by omega) (by omega)]; exact b5 r hr
theorem st_rest_congr {B kp : Nat} {nb : Nat → Nat} {s s' : Nat → Int32} (h0 : s' 0 = s 0) (h4 : s' 4 = s 4) (h5 : s' 5 = s 5) (h6 : s' 6 = s 6) (h10 : s' 10 = s 10) (h2 : ∀ i, 225 ≤ i → i < 405 → s' i = s i) (h : st_rest B kp nb s) : st_rest B kp nb s' := by
  obtain ⟨⟨bt, z1, z2, z3⟩, ⟨w, w1, w2⟩, ⟨gp, p1, p2, p3⟩, ⟨lvl, l1, l2, l3⟩, t1, t2, t3, t4, t5⟩ := h
  refine ⟨⟨bt, z1, by rw [h0]; exact z2, z3⟩, ⟨w, w1, by rw [h4]; exact w2⟩, ⟨gp, p1, p2, by rw [h5]; exact p3⟩, ⟨lvl, l1, l2, by rw [h6]; exact l3⟩, by rw [h10]; exact t1, t2, fun q hq => ?_, t4, fun q hq => ?_⟩
  · rw [h2 _ (by omega) (by omega)]; exact t3 q hq
  · rw [h2 _ (by omega) (by omega)]; exact t5 q hq
theorem st_n40 {m n st : Nat} {hb : Nat → Nat} {s : Nat → Int32} (h : st_balls m n st hb s) : n ≤ 40 := by
  have := h.2.2.2.1
  omega
theorem rl_lv {n kp o i0 : Nat} {s : Nat → Int32} {E : Nat → Nat → Int32} (v : Int32) (h0 : i0 < 405) (h : rl (lv n kp) o s E) : rl (lv n kp) o (up s i0 v) (am_upd E (lc o i0).1 (lc o i0).2 v) := rl_sub (fun _ h => Or.inl h) (rl_up v h0 h)
theorem lc_25 {o i : Nat} (h : i < 405) (h2 : i ≠ 9) (h3 : i ≠ 10) : (lc o i).1 ≠ 25 := by
  have h9 : ∀ i, i < 225 → i ≠ 9 → i ≠ 10 → (lc 0 i).1 ≠ 25 := by decide +kernel
  by_cases h1 : i < 225
  · rw [lc_lo o h1]
    exact h9 i h1 h2 h3
  · rw [lc_hi o (by omega)]
    simp only
    omega
/-- what is to be dropped, or a setting, is set -/
theorem st_set {B i : Nat} {s : Nat → Int32} {E : Nat → Nat → Int32} {x lo hi : Nat} (hi3 : (i = 4 ∧ lo = 0 ∧ hi = 200) ∨ (i = 5 ∧ lo = 1 ∧ hi = 9) ∨ (i = 6 ∧ lo = 1 ∧ hi = 40)) (h1 : lo ≤ x) (h2 : x ≤ hi) (h : st_ok B s E) : st_ok B (up s i (Int32.ofNat x)) (am_upd E (so i) (sj i) (Int32.ofNat x)) := by
  obtain ⟨m, n, st, kp, o, hb, nb, r, e1, e2, g, b, rs⟩ := h
  have hk : kp ≤ 60 := rs.2.2.2.2.2.1
  have hi11 : i < 11 := by omega
  have hr := rl_lv (i0 := i) (Int32.ofNat x) (by omega) ((rel_rl (st_n40 b) hk).mp r)
  have h25 := lc_25 (o := o) (i := i) (by omega) (by omega) (by omega)
  rw [lc_a o hi11] at hr h25
  refine ⟨m, n, st, kp, o, hb, nb, (rel_rl (st_n40 b) hk).mpr hr, by rw [u_ne (fun z => h25 z.1.symm)]; exact e1, e2, st_gates_congr (up_ne (by omega)) (fun _ _ _ => up_ne (by omega)) g, st_balls_congr (up_ne (by omega)) (up_ne (by omega)) (fun _ _ _ => up_ne (by omega)) b, ?_⟩
  obtain ⟨⟨bt, z1, z2, z3⟩, ⟨w, w1, w2⟩, ⟨gp, p1, p2, p3⟩, ⟨lvl, l1, l2, l3⟩, t1, t2, t3, t4, t5⟩ := rs
  refine ⟨⟨bt, z1, by rw [up_ne (by omega)]; exact z2, z3⟩, ?_, ?_, ?_, by rw [up_ne (by omega)]; exact t1, t2, fun q hq => by rw [up_ne (by omega)]; exact t3 q hq, t4, fun q hq => by rw [up_ne (by omega)]; exact t5 q hq⟩
  · by_cases h4 : i = 4
    · exact ⟨x, by omega, by rw [h4, up_self]⟩
    · exact ⟨w, w1, by rw [up_ne (by omega)]; exact w2⟩
  · by_cases h4 : i = 5
    · exact ⟨x, by omega, by omega, by rw [h4, up_self]⟩
    · exact ⟨gp, p1, p2, by rw [up_ne (by omega)]; exact p3⟩
  · by_cases h4 : i = 6
    · exact ⟨x, by omega, by omega, by rw [h4, up_self]⟩
    · exact ⟨lvl, l1, l2, by rw [up_ne (by omega)]; exact l3⟩
/-- one number of a gate that stands is set: its side, pitch, turns, targets or leavers -/
theorem st_gset {B m' g w : Nat} {s : Nat → Int32} {E : Nat → Nat → Int32} {v : Int32} (hm : s 1 = Int32.ofNat m') (hm2 : m' ≤ 12) (hg : g < m') (hw : w < 7) (h0 : w = 0 → v = 0 ∨ v = 1) (h1 : w = 1 → ∃ p, p ≤ 30 ∧ v = Int32.ofNat p) (h2 : w = 2 ∨ w = 3 → ∃ t, v = Int32.ofNat t ∧ ((g < t ∧ t < m') ∨ (20 ≤ t ∧ t < 25))) (h : st_ok B s E) : st_ok B (up s (11 + 7 * g + w) v) (am_upd E (go w) (gj w g) v) := by
  obtain ⟨m, n, st, kp, o, hb, nb, r, e1, e2, gs, b, rs⟩ := h
  have hk : kp ≤ 60 := rs.2.2.2.2.2.1
  have hmm : m' = m := n_inj (by omega) (by have := gs.2.1; omega) (hm.symm.trans gs.1)
  subst hmm
  have hr := rl_lv (i0 := 11 + 7 * g + w) v (by omega) ((rel_rl (st_n40 b) hk).mp r)
  have h25 := lc_25 (o := o) (i := 11 + 7 * g + w) (by omega) (by omega) (by omega)
  rw [lc_g o (by omega) hw] at hr h25
  refine ⟨m', n, st, kp, o, hb, nb, (rel_rl (st_n40 b) hk).mpr hr, by rw [u_ne (fun z => h25 z.1.symm)]; exact e1, e2, ?_, st_balls_congr (up_ne (by omega)) (up_ne (by omega)) (fun _ _ _ => up_ne (by omega)) b, st_rest_congr (up_ne (by omega)) (up_ne (by omega)) (up_ne (by omega)) (up_ne (by omega)) (up_ne (by omega)) (fun _ _ _ => up_ne (by omega)) rs⟩
  obtain ⟨g1, g2, g3, g4, g5, g6⟩ := gs
  refine ⟨by rw [up_ne (by omega)]; exact g1, g2, fun g' hg' => ?_, fun g' hg' => ?_, fun g' e hg' he => ?_, fun g' h3 h4 => ?_⟩
  · by_cases z : 11 + 7 * g' = 11 + 7 * g + w
    · rw [z, up_self]; exact h0 (by omega)
    · rw [up_ne z]; exact g3 g' hg'
  · by_cases z : 12 + 7 * g' = 11 + 7 * g + w
    · rw [z, up_self]; exact h1 (by omega)
    · rw [up_ne z]; exact g4 g' hg'
  · by_cases z : 13 + 7 * g' + e = 11 + 7 * g + w
    · obtain ⟨t, t1, t2⟩ := h2 (by omega)
      rw [z, up_self]
      exact ⟨t, t1, by have : g' = g := by omega
                       rw [this]; exact t2⟩
    · rw [up_ne z]; exact g5 g' e hg' he
  · rw [up_ne (by omega), up_ne (by omega), up_ne (by omega), up_ne (by omega)]; exact g6 g' h3 h4
