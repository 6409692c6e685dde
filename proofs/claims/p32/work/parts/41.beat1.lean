/-! what a beat does to the numbers: a ball passes, a ball is dropped, a ball is lifted -/
/-- the ball of rank w leaves its gate g to t -/
def pss (V V' : nD) (w g t : Nat) : Prop :=
  (w < V 19 0 ∧ V 21 w = g ∧ t = V 16 (2 * g + V 10 g)) ∧ (V' 1 = V 1 ∧ V' 3 = V 3 ∧ V' 8 = V 8 ∧ V' 12 = V 12 ∧ V' 14 = V 14 ∧ V' 16 = V 16) ∧
  ((∀ k, V' 10 k = if k = g then 1 - V 10 g else V 10 k) ∧ ∀ k, V' 18 k = if k = 2 * g + V 10 g then V 18 k + 1 else V 18 k) ∧
  (V' 26 2 = V 26 2 + 1 ∧ ((V 26 1 < 60 ∧ V' 26 1 = V 26 1 + 1 ∧ V' 26 0 = V 26 0) ∨ (V 26 1 = 60 ∧ V' 26 1 = 60 ∧ V' 26 0 = (V 26 0 + 1) % 60)) ∧ (∀ k, V' 28 k = if k = (V 26 0 + V 26 1) % 60 then V 1 0 else V 28 k) ∧ ∀ k, V' 32 k = if k = (V 26 0 + V 26 1) % 60 then V 12 g else V 32 k) ∧
  ((t < 20 ∧ V' 19 0 = V 19 0 ∧ V' 5 = V 5 ∧ V' 7 = V 7 ∧ (∀ j, V' 21 j = if j = w then t else V 21 j) ∧ V' 23 = V 23 ∧ ∀ j, V' 25 j = if j = w then V 25 w + 1 else V 25 j) ∨
   (20 ≤ t ∧ V' 19 0 = V 19 0 - 1 ∧ (∀ k, V' 5 k = if k = t - 20 then V 5 k + 1 else V 5 k) ∧ (∀ k, V' 7 k = if k = t - 20 then V 7 k + 1 else V 7 k) ∧ ∀ a j, (a = 21 ∨ a = 23 ∨ a = 25) → V' a j = V a (if j < w then j else j + 1)))
/-- a ball is dropped -/
def drp (V V' : nD) : Prop :=
  (0 < V 1 1 ∧ 0 < V 1 2 ∧ 0 < V 8 0) ∧ (V' 1 0 = V 1 0 ∧ V' 1 1 = V 1 1 - 1 ∧ V' 1 2 = V 1 2 - 1 ∧ V' 1 3 = V 1 3 + 1) ∧
  (V' 3 = V 3 ∧ V' 5 = V 5 ∧ V' 7 = V 7 ∧ V' 8 = V 8 ∧ V' 10 = V 10 ∧ V' 12 = V 12 ∧ V' 14 = V 14 ∧ V' 16 = V 16 ∧ V' 18 = V 18 ∧ V' 26 = V 26 ∧ V' 28 = V 28 ∧ V' 32 = V 32) ∧
  V' 19 0 = V 19 0 + 1 ∧ (∀ j, V' 21 j = if j = V 19 0 then 0 else V 21 j) ∧ (∀ j, V' 23 j = if j = V 19 0 then V 1 0 else V 23 j) ∧ ∀ j, V' 25 j = if j = V 19 0 then 0 else V 25 j
/-- a ball is lifted from the bin b -/
def lft (V V' : nD) (b : Nat) : Prop :=
  (b < 5 ∧ 0 < V 5 b) ∧ (V' 1 0 = V 1 0 ∧ V' 1 1 = V 1 1 + 1 ∧ V' 1 2 = V 1 2 ∧ V' 1 3 = V 1 3) ∧ (∀ k, V' 5 k = if k = b then V 5 b - 1 else V 5 k) ∧
  (V' 3 = V 3 ∧ V' 7 = V 7 ∧ V' 8 = V 8 ∧ V' 10 = V 10 ∧ V' 12 = V 12 ∧ V' 14 = V 14 ∧ V' 16 = V 16 ∧ V' 18 = V 18 ∧ V' 26 = V 26 ∧ V' 28 = V 28 ∧ V' 32 = V 32 ∧ V' 19 = V 19 ∧ V' 21 = V 21 ∧ V' 23 = V 23 ∧ V' 25 = V 25)
section PSS
variable {V V' : nD} {w g t : Nat}
theorem ig_s (h : ig V) (hg : g < V 8 0) : V 10 g = 0 ∨ V 10 g = 1 := by
  have := (h.2.1 g hg).2.1
  omega
theorem lvs_out (h18 : ∀ k, V' 18 k = if k = 2 * g + V 10 g then V 18 k + 1 else V 18 k) (hs : V 10 g = 0 ∨ V 10 g = 1) : lvs V' g = lvs V g + 1 ∧ ∀ g', g' ≠ g → lvs V' g' = lvs V g' := by
  unfold lvs
  constructor
  · rw [h18, h18]
    rcases hs with e | e
    · rw [e, if_pos (by omega), if_neg (by omega)]
      omega
    · rw [e, if_neg (by omega), if_pos (by omega)]
      omega
  · intro g' hg'
    rw [h18, h18, if_neg (by omega), if_neg (by omega)]
theorem ig_out (h : ig V) (hg : g < V 8 0) (h8 : V' 8 = V 8) (h12 : V' 12 = V 12) (h14 : V' 14 = V 14) (h16 : V' 16 = V 16) (h10 : ∀ k, V' 10 k = if k = g then 1 - V 10 g else V 10 k) (h18 : ∀ k, V' 18 k = if k = 2 * g + V 10 g then V 18 k + 1 else V 18 k) : ig V' := by
  have hs := ig_s h hg
  obtain ⟨l1, l2⟩ := lvs_out h18 hs
  obtain ⟨g1, g2, g3, g4⟩ := h
  refine ⟨by rw [h8]; exact g1, fun g' hg' => ?_, fun g' e hg' he => ?_, fun g' a1 a2 => ?_⟩
  · rw [h8] at hg'
    rw [h12, h14, h10]
    have q := g2 g' hg'
    by_cases z : g' = g
    · rw [z] at q ⊢
      rw [l1, if_pos rfl, h18, h18]
      rcases hs with e | e
      · rw [e] at q ⊢
        rw [if_pos (by omega), if_neg (by omega)]
        omega
      · rw [e] at q ⊢
        rw [if_neg (by omega), if_pos (by omega)]
        omega
    · rw [l2 g' z, if_neg z, h18, h18, if_neg (by omega), if_neg (by omega)]
      exact q
  · rw [h8] at hg' ⊢
    rw [h16]
    exact g3 g' e hg' he
  · rw [h8] at a1
    rw [h10, h14, h18, h18, if_neg (by omega), if_neg (by omega), if_neg (by omega)]
    exact g4 g' a1 a2
theorem im_note (h : im V) (hs : V 10 g = 0 ∨ V 10 g = 1) (hg : g < V 8 0) (hp : V 12 g ≤ 30) (h8 : V' 8 = V 8) (h1 : V' 1 = V 1) (h18 : ∀ k, V' 18 k = if k = 2 * g + V 10 g then V 18 k + 1 else V 18 k)
    (n1 : V' 26 2 = V 26 2 + 1) (n2 : (V 26 1 < 60 ∧ V' 26 1 = V 26 1 + 1 ∧ V' 26 0 = V 26 0) ∨ (V 26 1 = 60 ∧ V' 26 1 = 60 ∧ V' 26 0 = (V 26 0 + 1) % 60)) (n3 : ∀ k, V' 28 k = if k = (V 26 0 + V 26 1) % 60 then V 1 0 else V 28 k) (n4 : ∀ k, V' 32 k = if k = (V 26 0 + V 26 1) % 60 then V 12 g else V 32 k) : im V' := by
  obtain ⟨l1, l2⟩ := lvs_out h18 hs
  obtain ⟨m1, m2, m3, m4, m5⟩ := h
  obtain ⟨off, ho, hk, hof⟩ : ∃ off, V' 26 0 = (V 26 0 + off) % 60 ∧ V' 26 1 + off = V 26 1 + 1 ∧ V' 26 1 ≤ 60 := by
    rcases n2 with ⟨a1, a2, a3⟩ | ⟨a1, a2, a3⟩
    · exact ⟨0, by rw [a3, Nat.add_zero, Nat.mod_eq_of_lt m3], by omega, by omega⟩
    · exact ⟨1, a3, by omega, by omega⟩
  have hkp : V 26 1 ≤ 60 := by rw [m2]; omega
  have old : ∀ q, q + 1 < V' 26 1 → nb V' q = nb V (q + off) ∧ np V' q = np V (q + off) := fun q hq => by
    unfold nb np
    rw [n3, n4, ho]
    rw [if_neg (by omega), if_neg (by omega)]
    rw [show ((V 26 0 + off) % 60 + q) % 60 = (V 26 0 + (q + off)) % 60 by omega]
    exact ⟨rfl, rfl⟩
  have new : nb V' (V' 26 1 - 1) = V 1 0 ∧ np V' (V' 26 1 - 1) = V 12 g := by
    unfold nb np
    rw [n3, n4, ho, if_pos (by omega), if_pos (by omega)]
    exact ⟨rfl, rfl⟩
  refine ⟨?_, ?_, ?_, fun q hq => ?_, fun q q' hqq hq' => ?_⟩
  · rw [h8, n1, m1, sm_up (f := lvs V) (f' := lvs V') l1 l2 hg]
  · rw [n1]
    rcases n2 with ⟨a1, a2, a3⟩ | ⟨a1, a2, a3⟩
    · rw [a2]; omega
    · rw [a2]; omega
  · rw [ho]
    exact Nat.mod_lt _ (by decide)
  · rw [h1]
    by_cases z : q + 1 < V' 26 1
    · obtain ⟨e1, e2⟩ := old q z
      rw [e1, e2]
      exact m4 (q + off) (by omega)
    · have : q = V' 26 1 - 1 := by omega
      rw [this, new.1, new.2]
      omega
  · by_cases z' : q' + 1 < V' 26 1
    · rw [(old q' z').1, (old q (by omega)).1]
      exact m5 _ _ (by omega) (by omega)
    · have : q' = V' 26 1 - 1 := by omega
      rw [this, new.1]
      by_cases z : q + 1 < V' 26 1
      · rw [(old q z).1]
        exact (m4 _ (by omega)).1
      · have : q = V' 26 1 - 1 := by omega
        rw [this, new.1]
        omega
theorem pss_g (hi : inv V) (h : pss V V' w g t) : g < V 8 0 ∧ g < t ∧ (t < V 8 0 ∨ (20 ≤ t ∧ t < 25)) := by
  obtain ⟨⟨a1, a2, a3⟩, -⟩ := h
  have hg := (hi.2.1.2.2.1 w a1).1
  rw [a2] at hg
  have hs := (hi.1.2.1 g hg).2.1
  have := hi.1.2.2.1 g (V 10 g) hg (by omega)
  rw [← a3] at this
  exact ⟨hg, this⟩
theorem inv_pss (hi : inv V) (h : pss V V' w g t) : inv V' := by
  obtain ⟨hg, hgt, ht⟩ := pss_g hi h
  obtain ⟨⟨a1, a2, a3⟩, ⟨c1, c3, c8, c12, c14, c16⟩, ⟨d10, d18⟩, ⟨n1, n2, n3, n4⟩, hc⟩ := h
  obtain ⟨i1, ⟨b1, b2, b3, b4⟩, i3, i4⟩ := hi
  have hs := ig_s i1 hg
  refine ⟨ig_out i1 hg c8 c12 c14 c16 d10 d18, ?_, im_note i3 hs hg (i1.2.1 g hg).1 c8 c1 d18 n1 n2 n3 n4, iw_cg (by rw [c1]) c3 i4⟩
  have bw := b3 w a1
  rcases hc with ⟨t20, e19, e5, e7, e21, e23, e25⟩ | ⟨t20, e19, e5, e7, er⟩
  · refine ⟨by rw [e19, c1, e5]; exact b1, by rw [e19, c1, e7]; exact b2, fun r hr => ?_, fun r r' h1 h2 => ?_⟩
    · rw [e19] at hr
      have := b3 r hr
      have hm := i1.1
      rw [e21, e25, e23, c8, c1]
      by_cases z : r = w
      · rw [z] at this ⊢
        rw [if_pos rfl, if_pos rfl]
        omega
      · rw [if_neg z, if_neg z]
        exact this
    · rw [e19] at h2
      rw [e23]
      exact b4 r r' h1 h2
  · have hm8 := i1.1
    have hb : t - 20 < 5 := by omega
    refine ⟨?_, ?_, fun r hr => ?_, fun r r' h1 h2 => ?_⟩
    · rw [e19, c1, e5, e5, e5, e5, e5]
      generalize t - 20 = b at hb
      obtain rfl | rfl | rfl | rfl | rfl : b = 0 ∨ b = 1 ∨ b = 2 ∨ b = 3 ∨ b = 4 := by omega
      all_goals simp
      all_goals omega
    · rw [e19, c1, e7, e7, e7, e7, e7]
      generalize t - 20 = b at hb
      obtain rfl | rfl | rfl | rfl | rfl : b = 0 ∨ b = 1 ∨ b = 2 ∨ b = 3 ∨ b = 4 := by omega
      all_goals simp
      all_goals omega
    · rw [e19] at hr
      rw [er 21 r (by omega), er 23 r (by omega), er 25 r (by omega), c8, c1]
      exact b3 _ (by split <;> omega)
    · rw [e19] at h2
      rw [er 23 r (by omega), er 23 r' (by omega)]
      exact b4 _ _ (by split <;> split <;> omega) (by split <;> omega)
/-- balls that were dropped before this beat -/
def bef (V : nD) : Prop := ∀ r, r < V 19 0 → V 23 r < V 1 0
theorem bef_pss (hb : bef V) (h : pss V V' w g t) : bef V' := by
  obtain ⟨⟨a1, a2, a3⟩, ⟨c1, -⟩, -, -, hc⟩ := h
  intro r hr
  rw [c1]
  rcases hc with ⟨t20, e19, e5, e7, e21, e23, e25⟩ | ⟨t20, e19, e5, e7, er⟩
  · rw [e23]
    exact hb r (by omega)
  · rw [er 23 r (by omega)]
    exact hb _ (by split <;> omega)
theorem inv_drp (hi : inv V) (hb : bef V) (h0 : 0 < V 1 0) (h : drp V V') : inv V' := by
  obtain ⟨⟨a1, a2, a3⟩, ⟨p0, p1, p2, p3⟩, ⟨c3, c5, c7, c8, c10, c12, c14, c16, c18, c26, c28, c32⟩, e19, e21, e23, e25⟩ := h
  obtain ⟨i1, ⟨b1, b2, b3, b4⟩, i3, i4⟩ := hi
  refine ⟨ig_cg c8 c10 c12 c14 c16 c18 i1, ⟨by rw [e19, p1, c5]; omega, by rw [e19, c7, p3]; omega, fun r hr => ?_, fun r r' h1 h2 => ?_⟩, im_cg p0 c8 c18 c26 c28 c32 i3, ?_⟩
  · rw [e19] at hr
    rw [e21, e25, e23, c8, p0]
    by_cases z : r = V 19 0
    · rw [if_pos z, if_pos z, if_pos z]
      omega
    · rw [if_neg z, if_neg z, if_neg z]
      exact b3 r (by omega)
  · rw [e19] at h2
    rw [e23, e23]
    by_cases z : r' = V 19 0
    · rw [if_pos z, if_neg (by omega)]
      exact hb r (by omega)
    · rw [if_neg z, if_neg (by omega)]
      exact b4 r r' h1 (by omega)
  · obtain ⟨w1, w2, w3, w4, w5⟩ := i4
    unfold iw
    rw [c3, p2]
    omega
theorem inv_lft {b : Nat} (hi : inv V) (h : lft V V' b) : inv V' := by
  obtain ⟨⟨a1, a2⟩, ⟨p0, p1, p2, p3⟩, e5, c3, c7, c8, c10, c12, c14, c16, c18, c26, c28, c32, c19, c21, c23, c25⟩ := h
  obtain ⟨i1, ⟨b1, b2, b3, b4⟩, i3, i4⟩ := hi
  refine ⟨ig_cg c8 c10 c12 c14 c16 c18 i1, ⟨?_, by rw [c19, c7, p3]; exact b2, by rw [c19, c21, c8, c25, c23, p0]; exact b3, by rw [c19, c23]; exact b4⟩, im_cg p0 c8 c18 c26 c28 c32 i3, iw_cg p2 c3 i4⟩
  rw [c19, p1, e5, e5, e5, e5, e5]
  obtain rfl | rfl | rfl | rfl | rfl : b = 0 ∨ b = 1 ∨ b = 2 ∨ b = 3 ∨ b = 4 := by omega
  all_goals simp
  all_goals omega
/-- a beat begins -/
def bgn (V V' : nD) : Prop := V' 1 0 = V 1 0 + 1 ∧ (∀ k, k ≠ 0 → V' 1 k = V 1 k) ∧ ∀ a, a ≠ 1 → V' a = V a
theorem inv_bgn (hi : inv V) (h : bgn V V') : inv V' ∧ bef V' := by
  obtain ⟨h0, hk, hr⟩ := h
  obtain ⟨i1, ⟨b1, b2, b3, b4⟩, ⟨m1, m2, m3, m4, m5⟩, i4⟩ := hi
  refine ⟨⟨ig_cg (hr 8 (by decide)) (hr 10 (by decide)) (hr 12 (by decide)) (hr 14 (by decide)) (hr 16 (by decide)) (hr 18 (by decide)) i1, ⟨by rw [hr 19 (by decide), hr 5 (by decide), hk 1 (by decide)]; exact b1, by rw [hr 19 (by decide), hr 7 (by decide), hk 3 (by decide)]; exact b2, fun r h => ?_, by rw [hr 19 (by decide), hr 23 (by decide)]; exact b4⟩, ⟨?_, by rw [hr 26 (by decide)]; exact m2, by rw [hr 26 (by decide)]; exact m3, fun q hq => ?_, ?_⟩, iw_cg (hk 2 (by decide)) (hr 3 (by decide)) i4⟩, fun r h => ?_⟩
  · rw [hr 19 (by decide)] at h
    rw [hr 21 (by decide), hr 8 (by decide), hr 25 (by decide), hr 23 (by decide), h0]
    have := b3 r h
    omega
  · rw [lvs_cg (A := V) (hr 18 (by decide)), hr 26 (by decide), hr 8 (by decide)]
    exact m1
  · rw [hr 26 (by decide)] at hq
    rw [nb_cg (A := V) (hr 26 (by decide)) (hr 28 (by decide)), np_cg (A := V) (hr 26 (by decide)) (hr 32 (by decide)), h0]
    have := m4 q hq
    omega
  · rw [nb_cg (A := V) (hr 26 (by decide)) (hr 28 (by decide)), hr 26 (by decide)]
    exact m5
  · rw [hr 19 (by decide)] at h
    rw [hr 23 (by decide), h0]
    have := b3 r h
    omega
end PSS
