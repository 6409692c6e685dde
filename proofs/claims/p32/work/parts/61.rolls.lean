/-! what the law calls: rolls -/
section ROLLS
variable {A : nD} {D : am_DD}
theorem ar_zero (hg : ig A) {j : Nat} : ar A 0 j = 0 := by
  unfold ar
  split
  · rfl
  · exact bs_zero (ig_T hg) j
theorem ar_at0 (hg : ig A) (hm : 0 < A 8 0) {K : Nat} : ar A K 0 = K := by
  rw [ar_pos hm, bs_fp (ig_T hg) 0, if_pos rfl, rs_none _ (fun g hgm => by have := ig_T hg g hgm; omega)]
  omega
theorem ar_step (h : rel A D) (hg : ig A) (hm : 0 < A 8 0) {K : Nat} (hK : K ≤ 5000) : ∃ b, b < 5 ∧ ∀ j, 20 ≤ j → ar A (K + 1) j = ar A K j + (if j = 20 + b then 1 else 0) := by
  obtain ⟨Dc, _, hR⟩ := RS_0 h
  obtain ⟨b, _, h1, _, _, h4⟩ := lp_62 hg hm hK K 0 (K + 1) Dc (fun _ => 0) (by omega) (by omega) fp_zero hR
  exact ⟨b, h1, h4⟩
theorem ar_mono (h : rel A D) (hg : ig A) (hm : 0 < A 8 0) {j K : Nat} (hj : 20 ≤ j) : ∀ c, K + c ≤ 5000 → ar A K j ≤ ar A (K + c) j := by
  intro c
  induction c with
  | zero => intro _; exact Nat.le_refl _
  | succ c ih =>
    intro hc
    obtain ⟨b, _, h4⟩ := ar_step h hg hm (show K + c ≤ 5000 by omega)
    have e := h4 j hj
    have i := ih (by omega)
    rw [show K + (c + 1) = K + c + 1 by omega, e]
    omega
/-- all that came -/
def sa (A : nD) (m t : Nat) : Nat := sm (fun t => if 20 ≤ t then ar A m t else 0) t
theorem sa_25 {m : Nat} : sa A m 25 = ar A m 20 + ar A m 21 + ar A m 22 + ar A m 23 + ar A m 24 := by
  unfold sa
  simp [sm]
theorem sa_all (h : rel A D) (hg : ig A) (hm : 0 < A 8 0) : ∀ m, m ≤ 5000 → sa A m 25 = m := by
  intro m
  induction m with
  | zero => intro _; rw [sa_25, ar_zero hg, ar_zero hg, ar_zero hg, ar_zero hg, ar_zero hg]
  | succ m ih =>
    intro hmm
    obtain ⟨b, hb, h4⟩ := ar_step h hg hm (show m ≤ 5000 by omega)
    have i := ih (by omega)
    rw [sa_25] at i ⊢
    rw [h4 20 (by omega), h4 21 (by omega), h4 22 (by omega), h4 23 (by omega), h4 24 (by omega)]
    have : b = 0 ∨ b = 1 ∨ b = 2 ∨ b = 3 ∨ b = 4 := by omega
    rcases this with rfl | rfl | rfl | rfl | rfl <;> simp <;> omega
theorem pow_and : ∀ e, e ≤ 12 → Int32.ofNat (2 ^ e) &&& (Int32.ofNat (2 ^ e) - 1) = 0 := by decide +kernel
theorem pow_b : ∀ e, e ≤ 12 → 0 < 2 ^ e ∧ 2 ^ e ≤ 4096 := by decide +kernel
set_option maxHeartbeats 4000000 in
theorem lp_66_17 (hg : ig A) {m : Nat} (hm1 : m ≤ 1000) {P : Int32} (hE : ∀ N D1, rel A D1 → ∃ D2, fn_66_17 (N + 1) (Int32.ofNat m) (Int32.ofNat (A 8 0)) (Int32.ofNat (sa A m 25)) P 25 D1 = some (1, D2) ∧ rel A D2) : ∀ (c t N : Nat) (D : am_DD), t + c = 25 → c < N → rel A D →
    ∃ D2, fn_66_17 N (Int32.ofNat m) (Int32.ofNat (A 8 0)) (Int32.ofNat (sa A m t)) P (Int32.ofNat t) D = some (1, D2) ∧ rel A D2 := by
  have hm := hg.1
  intro c
  induction c with
  | zero =>
    intro t N D ht hN h
    obtain ⟨N, rfl⟩ := succ_of hN
    obtain rfl : t = 25 := by omega
    exact hE N D h
  | succ c ih =>
    intro t N D ht hN h
    obtain ⟨N, rfl⟩ := succ_of hN
    have q25 : ¬ (25 : Int32) ≤ Int32.ofNat t := nle (a := 25) (by omega) (by omega) (by omega)
    have em : Int32.ofNat m - Int32.ofNat m / 2 * 2 = Int32.ofNat (m % 2) := n_mod (b := 2) (by omega) (by omega) (by omega)
    have us : sa A m (t + 1) = sa A m t + (if 20 ≤ t then ar A m t else 0) := rfl
    rw [fn_66_17]
    simp only [q25, if_false]
    by_cases z : t < A 8 0
    · have q1 : Int32.ofNat t < Int32.ofNat (A 8 0) := ilt (by omega) (by omega) z
      have q19 : Int32.ofNat t ≤ 19 := ile (b := 19) (by omega) (by omega) (by omega)
      have qn : ¬ Int32.ofNat (A 8 0) ≤ Int32.ofNat t := nle (by omega) (by omega) z
      obtain ⟨D1, d1, r1⟩ := r_0 h hg hm1 (Or.inl z)
      obtain ⟨D2, d2, r2⟩ := r_1 r1 hg hm1 (Or.inl z)
      obtain ⟨D3, d3, r3⟩ := r_side r2 hg hm1 z
      obtain ⟨D4, d4, r4⟩ := r_w (K := 0) (w := m % 2) r3 hg (by omega) (Or.inl z) (by omega)
      have d4' : fn_59 0 (Int32.ofNat t) (Int32.ofNat (m % 2)) D3 = some (0, 0, D4) := by
        rw [ar_zero hg] at d4
        exact d4
      have hb := ar_bound hg (K := m) (j := t) (by omega)
      have hs := (hg.2.1 t z).2.1
      have e1 : Int32.ofNat (A 10 t + ar A m t) - Int32.ofNat (A 10 t + ar A m t) / 2 * 2 = Int32.ofNat ((A 10 t + ar A m t) % 2) := n_mod (b := 2) (by omega) (by omega) (by omega)
      obtain ⟨D5, d5, r5⟩ := ih (t + 1) N D4 (by omega) (by omega) r4
      refine ⟨D5, ?_, r5⟩
      rw [us, if_neg (by omega), Nat.add_zero] at d5
      simp only [q1, if_true, d1, q19, d2, not_true, if_false, qn, d3, g_0 r3 hm z, n_add, e1, em, d4', nI_up, Int32.add_zero]
      exact d5
    · have q1 : ¬ Int32.ofNat t < Int32.ofNat (A 8 0) := nlt (by omega) (by omega) (by omega)
      by_cases z2 : t ≤ 19
      · have q19 : Int32.ofNat t ≤ 19 := ile (b := 19) (by omega) (by omega) (by omega)
        obtain ⟨D5, d5, r5⟩ := ih (t + 1) N D (by omega) (by omega) h
        refine ⟨D5, ?_, r5⟩
        rw [us, if_neg (by omega), Nat.add_zero] at d5
        simp only [q1, if_true, q19, if_false, nI_up]
        exact d5
      · have q19 : ¬ Int32.ofNat t ≤ 19 := nle (b := 19) (by omega) (by omega) (by omega)
        have qn : Int32.ofNat (A 8 0) ≤ Int32.ofNat t := ile (by omega) (by omega) (by omega)
        have hx : t < A 8 0 ∨ (20 ≤ t ∧ t < 25) := Or.inr ⟨by omega, by omega⟩
        obtain ⟨D1, d1, r1⟩ := r_0 h hg hm1 hx
        obtain ⟨D2, d2, r2⟩ := r_1 r1 hg hm1 hx
        obtain ⟨D4, d4, r4⟩ := r_w (K := 0) (w := m % 2) r2 hg (by omega) hx (by omega)
        have d4' : fn_59 0 (Int32.ofNat t) (Int32.ofNat (m % 2)) D2 = some (0, 0, D4) := by
          rw [ar_zero hg] at d4
          exact d4
        obtain ⟨D5, d5, r5⟩ := ih (t + 1) N D4 (by omega) (by omega) r4
        refine ⟨D5, ?_, r5⟩
        rw [us, if_pos (by omega)] at d5
        simp only [q1, if_true, d1, q19, d2, not_true, if_false, qn, n_add, em, d4', nI_up]
        exact d5
/-! behind the loop over the gates -/
set_option maxHeartbeats 4000000 in
theorem h_first (h : rel A D) (hg : ig A) (hm : 0 < A 8 0) {m : Nat} (hm0 : 0 < m) (hm1 : m ≤ 1000) : ∃ b y D1 D2 D3 D4 D5 D6, fn_63 (Int32.ofNat m - 1) D = some (Int32.ofNat b, 0, D1) ∧ fn_65 (Int32.ofNat b) D1 = some (Int32.ofNat y, 0, D2) ∧ b < 5 ∧ y < m ∧ fn_59 (Int32.ofNat m) (20 + Int32.ofNat b) 0 D2 = some (Int32.ofNat (ar A (m - 1) (20 + b) + 1), 0, D3) ∧ fn_59 (Int32.ofNat m - 1) (20 + Int32.ofNat b) 1 D3 = some (Int32.ofNat (ar A (m - 1) (20 + b)), 0, D4) ∧ fn_63 (Int32.ofNat y) D4 = some (Int32.ofNat b, 0, D5) ∧ fn_59 (Int32.ofNat y) (20 + Int32.ofNat b) 0 D5 = some (0, 0, D6) ∧ rel A D6 := by
  have e1 : Int32.ofNat m - 1 = Int32.ofNat (m - 1) := n_sub (b := 1) (by omega) (by omega)
  obtain ⟨b, D1, hb, d1, r1, hs⟩ := r_bin h hg hm (show m - 1 < 1000 by omega)
  rw [show m - 1 + 1 = m by omega] at hs
  have es := hs (20 + b) (by omega)
  rw [if_pos rfl] at es
  have e2 : (20 : Int32) + Int32.ofNat b = Int32.ofNat (20 + b) := n_add 20 b
  obtain ⟨v, D2, d2, r2, hv⟩ := r_first r1 hg hm hb
  have hx : 20 + b < A 8 0 ∨ (20 ≤ 20 + b ∧ 20 + b < 25) := Or.inr ⟨by omega, by omega⟩
  rcases hv with ⟨f, rfl, hf, f0, f1⟩ | hz
  · have hfm : f < m := by
      apply Decidable.byContradiction
      intro hn
      have := ar_mono h hg hm (K := m) (j := 20 + b) (by omega) (f - m) (by omega)
      rw [show m + (f - m) = f by omega] at this
      omega
    obtain ⟨D3, d3, r3⟩ := r_0 r2 hg (show m ≤ 1000 by omega) hx
    obtain ⟨D4, d4, r4⟩ := r_1 r3 hg (show m - 1 ≤ 1000 by omega) hx
    obtain ⟨b', D5, hb', d5, r5, hs'⟩ := r_bin r4 hg hm (show f < 1000 by omega)
    have eb : b' = b := by
      have := hs' (20 + b) (by omega)
      by_cases q : 20 + b = 20 + b'
      · omega
      · rw [if_neg q] at this
        omega
    subst eb
    obtain ⟨D6, d6, r6⟩ := r_0 r5 hg (show f ≤ 1000 by omega) hx
    rw [f0] at d6
    rw [es] at d3
    refine ⟨b', f, D1, D2, D3, D4, D5, D6, by rw [e1]; exact d1, d2, hb, hfm, by rw [e2]; exact d3, by rw [e1, e2]; exact d4, d5, by rw [e2]; exact d6, r6⟩
  · have := hz m (by omega)
    omega
set_option maxHeartbeats 4000000 in
theorem lp_66_end (h : rel A D) (hg : ig A) (hm : 0 < A 8 0) {m : Nat} (hm1 : m ≤ 1000) : ∃ D2, rel A D2 ∧ (if Int32.ofNat m ≤ 0 then (if ay_isb 1 then some ((1 : Int32), D) else none) else (match fn_63 (Int32.ofNat m - 1) D with | none => none | some (y172, k207, D173) => (if k207 = 0 then (match fn_65 y172 D173 with | none => none | some (y175, k205, D176) => (if k205 = 0 then (if (1 : Int32) = 0 then some (0, D176) else (if y172 < 0 then some (0, D176) else (match fn_59 (Int32.ofNat m) (20 + y172) 0 D176 with | none => none | some (y180, k203, D181) => (if k203 = 0 then (match fn_59 (Int32.ofNat m - 1) (20 + y172) 1 D181 with | none => none | some (y183, k201, D184) => (if k201 = 0 then (if ¬ y180 = (y183 + 1) then some (0, D184) else (if y175 < 0 then some (0, D184) else (if Int32.ofNat m ≤ y175 then some (0, D184) else (match fn_63 y175 D184 with | none => none | some (y189, k199, D190) => (if k199 = 0 then (if ¬ y189 = y172 then some (0, D190) else (match fn_59 y175 (20 + y172) 0 D190 with | none => none | some (y193, k197, D194) => (if k197 = 0 then (if ¬ y193 = 0 then some (0, D194) else some (1, D194)) else none))) else none))))) else none)) else none)))) else none)) else none))) = some (1, D2) := by
  by_cases z : m = 0
  · subst z
    have q : Int32.ofNat 0 ≤ 0 := by decide
    exact ⟨D, h, by rw [if_pos q]; rfl⟩
  · obtain ⟨b, y, D1, D2, D3, D4, D5, D6, d1, d2, hb, hy, d3, d4, d5, d6, r6⟩ := h_first h hg hm (show 0 < m by omega) hm1
    have q0 : ¬ Int32.ofNat m ≤ 0 := nle (b := 0) (by omega) (by omega) (by omega)
    have q1 : ¬ Int32.ofNat b < 0 := nI_pos (n := b) (by omega)
    have q2 : ¬ Int32.ofNat y < 0 := nI_pos (n := y) (by omega)
    have q3 : ¬ Int32.ofNat m ≤ Int32.ofNat y := nle (by omega) (by omega) hy
    refine ⟨D6, r6, ?_⟩
    simp only [q0, if_false, d1, if_true, d2, i01, q1, d3, d4, nI_up, not_true, q2, q3, d5, d6]
set_option maxHeartbeats 4000000 in
theorem lp_66_218 (hg : ig A) (hm : 0 < A 8 0) {m e : Nat} (hm1 : m ≤ 1000) (he : e ≤ 12) (hev : ∀ g, g < A 8 0 → ar A (2 ^ e) g % 2 = 0) : ∀ (c g N : Nat) (D : am_DD), g + c = A 8 0 → c < N → rel A D → ∃ D2, rel A D2 ∧ fn_66_218 N (Int32.ofNat m) (Int32.ofNat (A 8 0)) (Int32.ofNat (2 ^ e)) 1 (Int32.ofNat g) D = some (1, D2) := by
  have hn := hg.1
  have hpb := pow_b e he
  intro c
  induction c with
  | zero =>
    intro g N D ht hN h
    obtain ⟨N, rfl⟩ := succ_of hN
    have q1 : Int32.ofNat (A 8 0) ≤ Int32.ofNat g := ile (by omega) (by omega) (by omega)
    obtain ⟨D2, r2, e2⟩ := lp_66_end h hg hm hm1
    refine ⟨D2, r2, ?_⟩
    rw [fn_66_218, if_pos q1]
    exact e2
  | succ c ih =>
    intro g N D ht hN h
    obtain ⟨N, rfl⟩ := succ_of hN
    have q1 : ¬ Int32.ofNat (A 8 0) ≤ Int32.ofNat g := nle (by omega) (by omega) (by omega)
    by_cases z : 1000 < 2 ^ e
    · have q2 : (1000 : Int32) < Int32.ofNat (2 ^ e) := ilt (a := 1000) (by omega) (by omega) z
      obtain ⟨D2, r2, e2⟩ := lp_66_end h hg hm hm1
      refine ⟨D2, r2, ?_⟩
      rw [fn_66_218, if_neg q1, if_pos q2]
      exact e2
    · have q2 : ¬ (1000 : Int32) < Int32.ofNat (2 ^ e) := nlt (a := 1000) (by omega) (by omega) (by omega)
      have hgm : g < A 8 0 := by omega
      obtain ⟨D1, d1, r1⟩ := r_side h hg (show 2 ^ e ≤ 1000 by omega) hgm
      have hs := (hg.2.1 g hgm).2.1
      have ev := hev g hgm
      rw [show (A 10 g + ar A (2 ^ e) g) % 2 = A 10 g by omega] at d1
      obtain ⟨D2, r2, e2⟩ := ih (g + 1) N D1 (by omega) (by omega) r1
      refine ⟨D2, r2, ?_⟩
      rw [fn_66_218]
      simp only [q1, if_false, q2, i01, d1, if_true, g_0 r1 hn hgm, not_true, nI_up]
      exact e2
set_option maxHeartbeats 4000000 in
theorem h_rolls (h : rel A D) (hg : ig A) {m : Nat} (hm1 : m ≤ 1000) : ∃ D2, fn_66 (Int32.ofNat m) D = some (1, D2) ∧ rel A D2 := by
  have hn := hg.1
  have z25 : (25 : Int32) ≤ 25 := by decide
  by_cases hm : A 8 0 = 0
  · have hz : sa A m 25 = 0 := by
      rw [sa_25]
      simp only [ar, hm, if_true]
    have em : Int32.ofNat m - Int32.ofNat m / 1000 * 1000 = Int32.ofNat (m % 1000) := n_mod (b := 1000) (by omega) (by omega) (by omega)
    have em5 : Int32.ofNat m - Int32.ofNat m / 5 * 5 = Int32.ofNat (m % 5) := n_mod (b := 5) (by omega) (by omega) (by omega)
    have hE : ∀ N D1, rel A D1 → ∃ D2, fn_66_17 (N + 1) (Int32.ofNat m) (Int32.ofNat (A 8 0)) (Int32.ofNat (sa A m 25)) (-1) 25 D1 = some (1, D2) ∧ rel A D2 := by
      intro N D1 h1
      refine ⟨D1, ?_, h1⟩
      have i0 : ¬ ¬ Int32.ofNat 0 = 0 := not_not_intro rfl
      have b0 := r_bin0 h1 hg hm (show m % 1000 < 1000 by omega)
      have f0 := r_first0 h1 hg hm (show m % 5 < 5 by omega)
      rw [fn_66_17, hz, hm]
      simp only [z25, if_true, i0, if_false, em, b0, not_true, em5, f0]
    obtain ⟨D2, d2, r2⟩ := lp_66_17 hg hm1 hE 25 0 100000 D (by omega) (by omega) h
    refine ⟨D2, ?_, r2⟩
    have d2' : fn_66_17 100000 (Int32.ofNat m) (Int32.ofNat (A 8 0)) 0 (-1) 0 D = some (1, D2) := d2
    unfold fn_66 am_F
    rw [c_1 h]
    dsimp only
    rw [if_pos rfl, r_period0 h hg hm]
    exact d2'
  · have hm' : 0 < A 8 0 := by omega
    obtain ⟨e, Dp, he, dp, rp, hev⟩ := r_period h hg hm'
    have hpb := pow_b e he
    have hz : sa A m 25 = m := sa_all h hg hm' m (by omega)
    have hE : ∀ N D1, rel A D1 → ∃ D2, fn_66_17 (N + 1) (Int32.ofNat m) (Int32.ofNat (A 8 0)) (Int32.ofNat (sa A m 25)) (Int32.ofNat (2 ^ e)) 25 D1 = some (1, D2) ∧ rel A D2 := by
      intro N D1 h1
      obtain ⟨D3, d3, r3⟩ := r_1 (x := 0) h1 hg hm1 (Or.inl hm')
      rw [ar_at0 hg hm'] at d3
      have d3' : fn_59 (Int32.ofNat m) 0 1 D1 = some (Int32.ofNat m, 0, D3) := d3
      obtain ⟨D2, r2, d2⟩ := lp_66_218 hg hm' hm1 he hev (A 8 0) 0 100000 D3 (by omega) (by omega) r3
      have d2' : fn_66_218 100000 (Int32.ofNat m) (Int32.ofNat (A 8 0)) (Int32.ofNat (2 ^ e)) 1 0 D3 = some (1, D2) := d2
      refine ⟨D2, ?_, r2⟩
      have i0 : ¬ Int32.ofNat (A 8 0) = 0 := ine (b := 0) (by omega) (by omega) (by omega)
      have i1 : ¬ Int32.ofNat (2 ^ e) ≤ 0 := nle (b := 0) (by omega) (by omega) (by omega)
      have i2 : ¬ (4096 : Int32) < Int32.ofNat (2 ^ e) := nlt (a := 4096) (by omega) (by omega) (by omega)
      rw [fn_66_17, hz]
      unfold am_F
      simp only [z25, if_true, i0, not_false_eq_true, not_true, if_false, d3', pow_and e he, i1, i2]
      exact d2'
    obtain ⟨D2, d2, r2⟩ := lp_66_17 hg hm1 hE 25 0 100000 Dp (by omega) (by omega) rp
    refine ⟨D2, ?_, r2⟩
    have d2' : fn_66_17 100000 (Int32.ofNat m) (Int32.ofNat (A 8 0)) 0 (Int32.ofNat (2 ^ e)) 0 Dp = some (1, D2) := d2
    unfold fn_66 am_F
    rw [c_1 h]
    dsimp only
    rw [if_pos rfl, dp]
    exact d2'
end ROLLS
