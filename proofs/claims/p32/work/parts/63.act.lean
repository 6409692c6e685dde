/-! act: each of its cases answers true -/
def okE (B : Nat) (e : Option ((Int32 × am_DD) ⊕ (Int32 × Int32 × am_DD))) : Prop := ∃ x, e = some x ∧ ln_actok (In B) x
theorem ok_1 {B : Nat} {e : Option ((Int32 × am_DD) ⊕ (Int32 × Int32 × am_DD))} {D' : am_DD} (he : e = some (.inl (1, D'))) (h : In B D') : okE B e := ⟨_, he, rfl, h⟩
theorem In_D0 {B : Nat} {D : am_DD} (h : In B D) : In B (ln_D0 D) := by
  obtain ⟨A, r, hi, hb⟩ := h
  exact ⟨A, r.row fun a ha => ln_D0_row (by unfold am_scr; omega), hi, hb⟩
section ACT
variable {A : nD} {D : am_DD} {B Bf : Nat} {w : Int32}
theorem low_l {v : Int32} {K : Nat} (h0 : 0 < K) (hK : K < 2 ^ 31) : ∃ x, x < K ∧ lw v K = x ∧ ∀ D, fn_70 v (Int32.ofNat K) D = some (Int32.ofNat x, D) := ⟨lw v K, lw_lt h0, rfl, fun _ => low_n h0 hK⟩
set_option maxHeartbeats 2000000 in
theorem a_88 (h : rel A D) (hi : inv A) (hb : bnd B A) : okE B (fn_105_88 am_F w (Int32.ofNat (A 8 0)) D) := by
  have hn := hi.1.1
  show okE B (fn_105_88 (99999 + 1) w (Int32.ofNat (A 8 0)) D)
  rw [fn_105_88]
  by_cases z : A 8 0 = 12
  · have y : Int32.ofNat (A 8 0) = 12 := by rw [z]; rfl
    exact ok_1 (D' := D) (by rw [if_pos y]) ⟨A, h, hi, hb⟩
  · have y : ¬ Int32.ofNat (A 8 0) = 12 := ine (b := 12) (by omega) (by omega) z
    obtain ⟨p, hp, -, l31⟩ := low_l (v := w) (K := 31) (by omega) (by omega)
    have l31' : ∀ D, fn_70 w 31 D = some (Int32.ofNat p, D) := l31
    obtain ⟨D1, d1, r1⟩ := m_gate h (show A 8 0 < 12 by omega) (show p ≤ 30 by omega)
    have i1 := i_gate hi (show A 8 0 < 12 by omega) (show p ≤ 30 by omega)
    have b1 := n_gate (p := p) hb
    have er : ∀ a, a ≠ 8 → a ≠ 12 → a ≠ 16 → A_gate A p a = A a := fun a k1 k2 k3 => by
      unfold A_gate
      rw [nu_row k3, nu_row k3, nu_row k2, nu_row k1]
    have e8 : A_gate A p 8 0 = A 8 0 + 1 := by
      unfold A_gate
      rw [nu_row (by decide), nu_row (by decide), nu_row (by decide), nu_self]
    have e12 : A_gate A p 12 (A 8 0) = p := by
      unfold A_gate
      rw [nu_row (by decide), nu_row (by decide), nu_self]
    have e16 : A_gate A p 16 (2 * A 8 0) = 20 := by
      unfold A_gate
      rw [nu_ne (by omega), nu_self]
    have e17 : A_gate A p 16 (2 * A 8 0 + 1) = 20 := by
      unfold A_gate
      rw [nu_self]
    have e10 : A_gate A p 10 (A 8 0) = 0 := by
      rw [er 10 (by decide) (by decide) (by decide)]
      exact (hi.1.2.2.2 (A 8 0) (by omega) (by omega)).1
    have hg : A 8 0 < A_gate A p 8 0 := by omega
    have hm : A_gate A p 8 0 ≤ 12 := by omega
    have c1 := c_1 r1
    have g0 := g_0 r1 hm hg
    have g1 := g_1 r1 hm hg
    have g2 := g_2 r1 hm hg
    have g3 := g_3 r1 hm hg
    rw [e8] at c1
    rw [e10] at g0
    rw [e12] at g1
    rw [e16] at g2
    rw [e17] at g3
    have u0 : Int32.ofNat 0 = 0 := rfl
    have u20 : Int32.ofNat 20 = 20 := rfl
    rw [u0] at g0
    rw [u20] at g2 g3
    refine ok_1 (D' := D1) ?_ ⟨_, r1, i1, b1⟩
    simp only [y, if_false, l31', d1, if_true, not_true, c1, nI_up, g0, g1, g2, g3]
set_option maxHeartbeats 2000000 in
theorem a_252 (h : rel A D) (hi : inv A) (hb : bnd B A) {g t : Nat} (hg : g < A 8 0) (hgt : g < t) (ht : t < A 8 0 ∨ (20 ≤ t ∧ t < 25)) : okE B (fn_105_227 am_F w (Int32.ofNat (A 8 0)) (Int32.ofNat g) (Int32.ofNat t) D) := by
  have hn := hi.1.1
  show okE B (fn_105_227 (99999 + 1) w (Int32.ofNat (A 8 0)) (Int32.ofNat g) (Int32.ofNat t) D)
  have y : ¬ Int32.ofNat (A 8 0) = 0 := ine (b := 0) (by omega) (by omega) (by omega)
  obtain ⟨e, he, -, l2⟩ := low_l (v := w >>> (4 &&& 31)) (K := 2) (by omega) (by omega)
  have l2' : ∀ D, fn_70 (w >>> (4 &&& 31)) 2 D = some (Int32.ofNat e, D) := l2
  obtain ⟨D1, d1, r1⟩ := m_lead h hn hg he hgt ht
  have i1 := i_lead hi hg he hgt ht
  have b1 := n_lead (k := 2 * g + e) (t := t) hb
  have g2 := g_23 h hn hg he
  have g3 := g_23 r1 (by rw [nu_row (by decide)]; exact hn) (g := g) (by rw [nu_row (by decide)]; exact hg) he
  rw [nu_self] at g3
  refine ok_1 (D' := D1) ?_ ⟨_, r1, i1, b1⟩
  rw [fn_105_227]
  simp only [y, not_false_eq_true, if_true, l2', g2]
  show fn_105_252 (99999 + 1) _ _ _ _ _ _ = _
  rw [fn_105_252]
  simp only [y, if_false, l2', d1, if_true, not_true, g3]
set_option maxHeartbeats 2000000 in
theorem a_171 (h : rel A D) (hi : inv A) (hb : bnd B A) {g : Nat} (hg : (A 8 0 = 0 ∧ g = 0) ∨ g < A 8 0) : okE B (fn_105_171 am_F w (Int32.ofNat (A 8 0)) (Int32.ofNat g) D) := by
  have hn := hi.1.1
  show okE B (fn_105_171 (99999 + 1) w (Int32.ofNat (A 8 0)) (Int32.ofNat g) D)
  obtain ⟨q, hq, -, l5⟩ := low_l (v := w >>> (7 &&& 31)) (K := 5) (by omega) (by omega)
  have l5' : ∀ D, fn_70 (w >>> (7 &&& 31)) 5 D = some (Int32.ofNat q, D) := l5
  have e20 : (20 : Int32) + Int32.ofNat q = Int32.ofNat (20 + q) := n_add 20 q
  rw [fn_105_171]
  by_cases z : A 8 0 = 0
  · have y : Int32.ofNat (A 8 0) = 0 := by rw [z]; rfl
    refine ok_1 (D' := D) ?_ ⟨A, h, hi, hb⟩
    simp only [y, if_true, l5']
    show fn_105_227 (99999 + 1) _ _ _ _ _ = _
    rw [fn_105_227]
    simp only [not_true, if_false]
    show fn_105_252 (99999 + 1) _ _ _ _ _ _ = _
    rw [fn_105_252]
    simp only [if_true]
  · have hg' : g < A 8 0 := by omega
    have y : ¬ Int32.ofNat (A 8 0) = 0 := ine (b := 0) (by omega) (by omega) z
    have em : Int32.ofNat (A 8 0) - 1 = Int32.ofNat (A 8 0 - 1) := n_sub (b := 1) (by omega) (by omega)
    by_cases z2 : g = A 8 0 - 1
    · have y2 : Int32.ofNat g = Int32.ofNat (A 8 0 - 1) := by rw [z2]
      rw [if_neg y, em, if_pos y2]
      simp only [l5', e20]
      exact a_252 h hi hb hg' (by omega) (Or.inr ⟨by omega, by omega⟩)
    · have y2 : ¬ Int32.ofNat g = Int32.ofNat (A 8 0 - 1) := ine (by omega) (by omega) z2
      obtain ⟨u, hu, -, l3⟩ := low_l (v := w >>> (5 &&& 31)) (K := 3) (by omega) (by omega)
      have l3' : ∀ D, fn_70 (w >>> (5 &&& 31)) 3 D = some (Int32.ofNat u, D) := l3
      rw [if_neg y, em, if_neg y2]
      by_cases z3 : u = 0
      · have y3 : Int32.ofNat u = 0 := by rw [z3]; rfl
        simp only [l3', y3, not_true, if_false, l5', e20]
        exact a_252 h hi hb hg' (by omega) (Or.inr ⟨by omega, by omega⟩)
      · have y3 : ¬ Int32.ofNat u = 0 := ine (b := 0) (by omega) (by omega) z3
        have es : Int32.ofNat (A 8 0 - 1) - Int32.ofNat g = Int32.ofNat (A 8 0 - 1 - g) := n_sub (by omega) (by omega)
        obtain ⟨x, hx, -, lx⟩ := low_l (v := w >>> (7 &&& 31)) (K := A 8 0 - 1 - g) (by omega) (by omega)
        simp only [l3', y3, not_false_eq_true, if_true, es, lx, nI_up, n_add]
        exact a_252 h hi hb hg' (by omega) (Or.inl (by omega))
set_option maxHeartbeats 2000000 in
theorem a_302 (h : rel A D) (hi : inv A) (hb : bnd B A) (hB : B + 1 < 2 ^ 24) {g : Nat} (hg : (A 8 0 = 0 ∧ g = 0) ∨ g < A 8 0) : okE (B + 1) (fn_105_302 am_F (Int32.ofNat (A 8 0)) (Int32.ofNat g) D) := by
  have hn := hi.1.1
  show okE (B + 1) (fn_105_302 (99999 + 1) (Int32.ofNat (A 8 0)) (Int32.ofNat g) D)
  rw [fn_105_302]
  by_cases z : A 8 0 = 0
  · have y : Int32.ofNat (A 8 0) = 0 := by rw [z]; rfl
    refine ok_1 (D' := D) ?_ ⟨A, h, hi, bnd_mono (by omega) hB hb⟩
    simp only [y, not_true, if_false]
    show fn_105_319 (99999 + 1) _ _ _ _ = _
    rw [fn_105_319]
    simp only [if_true]
  · have hg' : g < A 8 0 := by omega
    have y : ¬ Int32.ofNat (A 8 0) = 0 := ine (b := 0) (by omega) (by omega) z
    obtain ⟨D1, d1, r1⟩ := m_flip h hi.1 hg'
    have i1 := i_flip hi hg'
    have b1 := n_flip (g := g) hb hB
    have hs := (hi.1.2.1 g hg').2.1
    have e1 : (1 : Int32) - Int32.ofNat (A 10 g) = Int32.ofNat (1 - A 10 g) := n_sub (a := 1) (by omega) (by omega)
    have e8 : A_flip A g 8 0 = A 8 0 := by
      unfold A_flip
      rw [nu_row (by decide), nu_row (by decide)]
    have g0 := g_0 r1 (g := g) (by omega) (by omega)
    have e10 : A_flip A g 10 g = 1 - A 10 g := by
      unfold A_flip
      rw [nu_self]
    rw [e10] at g0
    refine ok_1 (D' := D1) ?_ ⟨_, r1, i1, b1⟩
    simp only [y, not_false_eq_true, if_true, g_0 h hn hg']
    show fn_105_319 (99999 + 1) _ _ _ _ = _
    rw [fn_105_319]
    simp only [y, if_false, d1, if_true, e1, not_true, g0]
theorem c_56 (h : rel A D) {i : Nat} (hi : i < 2) : fn_14 (5 + Int32.ofNat i) D = some (Int32.ofNat (A 3 i), 0, D) := by
  have : i = 0 ∨ i = 1 := by omega
  rcases this with rfl | rfl
  · exact c_5 h
  · exact c_6 h
set_option maxHeartbeats 2000000 in
theorem a_356 (h : rel A D) (hi : inv A) (hb : bnd B A) : okE B (fn_105_356 am_F w D) := by
  show okE B (fn_105_356 (99999 + 1) w D)
  obtain ⟨i, hi2, -, l2⟩ := low_l (v := w) (K := 2) (by omega) (by omega)
  have l2' : ∀ D, fn_70 w 2 D = some (Int32.ofNat i, D) := l2
  obtain ⟨j, hj2, -, lj⟩ := low_l (v := w >>> (8 &&& 31)) (K := 2) (by omega) (by omega)
  have lj' : ∀ D, fn_70 (w >>> (8 &&& 31)) 2 D = some (Int32.ofNat j, D) := lj
  obtain ⟨x3, h3, -, l3⟩ := low_l (v := w >>> (1 &&& 31)) (K := 3) (by omega) (by omega)
  have l3' : ∀ D, fn_70 (w >>> (1 &&& 31)) 3 D = some (Int32.ofNat x3, D) := l3
  obtain ⟨x40, h40, -, l40⟩ := low_l (v := w >>> (1 &&& 31)) (K := 40) (by omega) (by omega)
  have l40' : ∀ D, fn_70 (w >>> (1 &&& 31)) 40 D = some (Int32.ofNat x40, D) := l40
  obtain ⟨x9, h9, -, l9⟩ := low_l (v := w >>> (1 &&& 31)) (K := 9) (by omega) (by omega)
  have l9' : ∀ D, fn_70 (w >>> (1 &&& 31)) 9 D = some (Int32.ofNat x9, D) := l9
  have e1 : ∀ x : Nat, (1 : Int32) + Int32.ofNat x = Int32.ofNat (1 + x) := fun x => n_add 1 x
  rw [fn_105_356]
  have go : ∀ v, (i = 0 ∧ 1 ≤ v ∧ v ≤ 9) ∨ (i = 1 ∧ 1 ≤ v ∧ v ≤ 40) → ∃ D1, fn_88 (Int32.ofNat i) (Int32.ofNat v) D = some (Int32.ofNat (A 3 i), 0, D1) ∧ fn_14 (5 + Int32.ofNat i) D1 = some (Int32.ofNat v, 0, D1) ∧ In B D1 := fun v hv => by
    obtain ⟨D1, d1, r1⟩ := m_set h hv
    have c := c_56 r1 hi2
    rw [nu_self] at c
    exact ⟨D1, d1, c, _, r1, i_set hi hv, n_set hb⟩
  by_cases z : i = 0
  · have y : Int32.ofNat i = 0 := by rw [z]; rfl
    obtain ⟨D1, d1, c1, p1⟩ := go (1 + x9) (by omega)
    refine ok_1 (D' := D1) ?_ p1
    have c0 := c_56 h hi2
    rw [y] at d1 c1 c0
    simp only [l2', y, not_true, if_false, l9', e1, c0, if_true, d1, c1]
  · have y : ¬ Int32.ofNat i = 0 := ine (b := 0) (by omega) (by omega) z
    by_cases z2 : j = 0
    · have y2 : Int32.ofNat j = 0 := by rw [z2]; rfl
      obtain ⟨D1, d1, c1, p1⟩ := go (1 + x40) (by omega)
      refine ok_1 (D' := D1) ?_ p1
      simp only [l2', y, not_false_eq_true, not_true, if_false, lj', y2, l40', e1, c_56 h hi2, if_true, d1, c1]
    · have y2 : ¬ Int32.ofNat j = 0 := ine (b := 0) (by omega) (by omega) z2
      obtain ⟨D1, d1, c1, p1⟩ := go (1 + x3) (by omega)
      refine ok_1 (D' := D1) ?_ p1
      simp only [l2', y, not_false_eq_true, not_true, if_false, lj', y2, l3', e1, c_56 h hi2, if_true, d1, c1]
set_option maxHeartbeats 2000000 in
theorem a_447 (h : rel A D) (hi : inv A) (hb : bnd B A) : okE B (fn_105_447 am_F w D) := by
  show okE B (fn_105_447 (99999 + 1) w D)
  obtain ⟨b, hb5, -, l5⟩ := low_l (v := w) (K := 5) (by omega) (by omega)
  have l5' : ∀ D, fn_70 w 5 D = some (Int32.ofNat b, D) := l5
  obtain ⟨D1, d1, -, r1, i1, b1, -⟩ := empty_st hb5 h hi hb
  have c1 := c_2 r1
  have g1 := b_0 r1 hb5
  have e1 : A_empty A b 1 1 = A 1 1 + A 5 b := by
    unfold A_empty
    rw [nu_self]
  have e5 : A_empty A b 5 b = 0 := by
    unfold A_empty
    rw [nu_row (by decide), nu_self]
  rw [e1] at c1
  rw [e5] at g1
  have g1' : fn_33 (Int32.ofNat b) 0 D1 = some (0, 0, D1) := g1
  refine ok_1 (D' := D1) ?_ ⟨_, r1, i1, b1⟩
  rw [fn_105_447]
  simp only [l5', b_0 h hb5, if_true, c_2 h, d1, not_true, if_false, c1, n_add, g1']
set_option maxHeartbeats 2000000 in
theorem a_512 (h : rel A D) (hi : inv A) (hb : bnd B A) : okE B (fn_105_512 am_F w D) := by
  show okE B (fn_105_512 (99999 + 1) w D)
  have hw := hi.2.2.2.2.2.2.2
  obtain ⟨b, hb5, -, l5⟩ := low_l (v := w) (K := 40) (by omega) (by omega)
  have l5' : ∀ D, fn_70 w 40 D = some (Int32.ofNat b, D) := l5
  have e1 : (1 : Int32) + Int32.ofNat b = Int32.ofNat (1 + b) := n_add 1 b
  obtain ⟨m1, m2⟩ := m_drop h hi.2.2.2 (show 1 ≤ 1 + b by omega) (show 1 + b ≤ 40 by omega)
  rw [fn_105_512]
  by_cases z : A 1 2 + (1 + b) ≤ 200
  · obtain ⟨D1, d1, r1⟩ := m1 z
    have f : fn_94 (Int32.ofNat (1 + b)) D = some (Int32.ofNat (A 1 2 + 1 + b), D1) := by
      unfold fn_94
      rw [d1, Nat.add_assoc]
      rfl
    have c1 := c_4 r1
    rw [nu_self, ← Nat.add_assoc] at c1
    have q : Int32.ofNat (A 1 2 + 1 + b) ≤ 200 := ile (b := 200) (by omega) (by omega) (by omega)
    refine ok_1 (D' := D1) ?_ ⟨_, r1, i_drop hi (by omega), n_drop hb⟩
    simp only [c_4 h, if_true, l5', e1, f, nI_up, n_add, q, not_true, if_false, c1]
  · have f : fn_94 (Int32.ofNat (1 + b)) D = some (-7002, D) := by
      unfold fn_94
      rw [m2 (by omega)]
      rfl
    have q : ¬ Int32.ofNat (A 1 2 + 1 + b) ≤ 200 := nle (b := 200) (by omega) (by omega) (by omega)
    refine ok_1 (D' := D) ?_ ⟨_, h, hi, hb⟩
    simp only [c_4 h, if_true, l5', e1, f, nI_up, n_add, q, not_true, if_false]
set_option maxHeartbeats 2000000 in
theorem a_608 (h : rel A D) (hi : inv A) (hb : bnd B A) : okE B (fn_105_608 am_F w D) := by
  show okE B (fn_105_608 (99999 + 1) w D)
  obtain ⟨i, hi2, -, l2⟩ := low_l (v := w >>> (11 &&& 31)) (K := 2) (by omega) (by omega)
  have l2' : ∀ D, fn_70 (w >>> (11 &&& 31)) 2 D = some (Int32.ofNat i, D) := l2
  obtain ⟨x, hx, -, lx⟩ := low_l (v := w) (K := 40) (by omega) (by omega)
  have lx' : ∀ D, fn_70 w 40 D = some (Int32.ofNat x, D) := lx
  obtain ⟨v, hv, -, lv⟩ := low_l (v := w) (K := 1001) (by omega) (by omega)
  have lv' : ∀ D, fn_70 w 1001 D = some (Int32.ofNat v, D) := lv
  have ib1 : ay_isb 1 = true := rfl
  rw [fn_105_608]
  by_cases z : i = 0
  · have y : Int32.ofNat i = 0 := by rw [z]; rfl
    obtain ⟨D1, d1, r1⟩ := h_rolls h hi.1 (show v ≤ 1000 by omega)
    refine ok_1 (D' := D1) ?_ ⟨_, r1, hi, hb⟩
    simp only [l2', y, not_true, if_false, lv', d1, ib1, if_true]
  · have y : ¬ Int32.ofNat i = 0 := ine (b := 0) (by omega) (by omega) z
    obtain ⟨D1, d1, r1⟩ := h_rolls h hi.1 (show x ≤ 1000 by omega)
    refine ok_1 (D' := D1) ?_ ⟨_, r1, hi, hb⟩
    simp only [l2', y, not_false_eq_true, if_true, lx', d1, ib1]
set_option maxHeartbeats 2000000 in
theorem a_636 (h : In B D) (hB : B + 4000 ≤ Bf) (hBf : Bf < 2 ^ 24) : okE Bf (fn_105_636 am_F w D) := by
  show okE Bf (fn_105_636 (99999 + 1) w D)
  obtain ⟨i, hi2, -, l2⟩ := low_l (v := w) (K := 3) (by omega) (by omega)
  have l2' : ∀ D, fn_70 w 3 D = some (Int32.ofNat i, D) := l2
  obtain ⟨x, hx, -, lx⟩ := low_l (v := w >>> (2 &&& 31)) (K := 40) (by omega) (by omega)
  have lx' : ∀ D, fn_70 (w >>> (2 &&& 31)) 40 D = some (Int32.ofNat x, D) := lx
  have e1 : (1 : Int32) + Int32.ofNat x = Int32.ofNat (1 + x) := n_add 1 x
  rw [fn_105_636]
  by_cases z : i = 0
  · have y : ¬ (0 : Int32) < Int32.ofNat i := nlt (a := 0) (by omega) (by omega) (by omega)
    refine ⟨.inr (Int32.ofNat (1 + x), w >>> (4 &&& 31), D), ?_, In B, h, fun D hD => In_D0 hD, fun D hD => h_lets (by omega) (by omega) hB hBf hD⟩
    simp only [l2', y, if_false, lx', e1]
  · have y : (0 : Int32) < Int32.ofNat i := ilt (a := 0) (by omega) (by omega) (by omega)
    refine ok_1 (D' := D) ?_ (In_mono (by omega) hBf h)
    simp only [l2', y, if_true]
theorem kept_t : kept (fun _ => True) := ⟨fun _ _ _ _ => trivial, fun _ _ _ _ _ _ _ _ => trivial, fun _ _ _ _ _ => trivial, fun _ _ _ _ _ => trivial, fun _ _ _ _ _ _ => trivial⟩
set_option maxHeartbeats 2000000 in
theorem a_670 (h : rel A D) (hi : inv A) (hb : bnd B A) (hB : B + 50 < 2 ^ 24) : okE (B + 50) (fn_105_670 am_F w D) := by
  show okE (B + 50) (fn_105_670 (99999 + 1) w D)
  obtain ⟨i, hi2, -, l2⟩ := low_l (v := w >>> (8 &&& 31)) (K := 3) (by omega) (by omega)
  have l2' : ∀ D, fn_70 (w >>> (8 &&& 31)) 3 D = some (Int32.ofNat i, D) := l2
  obtain ⟨x, hx, -, lx⟩ := low_l (v := w) (K := 5) (by omega) (by omega)
  have lx' : ∀ D, fn_70 w 5 D = some (Int32.ofNat x, D) := lx
  obtain ⟨v, hv, -, lv⟩ := low_l (v := w) (K := 50) (by omega) (by omega)
  have lv' : ∀ D, fn_70 w 50 D = some (Int32.ofNat v, D) := lv
  have e1 : ∀ x : Nat, (1 : Int32) + Int32.ofNat x = Int32.ofNat (1 + x) := fun x => n_add 1 x
  have go : ∀ n, 1 ≤ n → n ≤ 50 → ∃ D1 T y, fn_103 (Int32.ofNat n) D = some (y, 0, D1) ∧ fn_14 9 D1 = some (T, 0, D1) ∧ T - Int32.ofNat (A 26 2) = y ∧ fn_14 0 D1 = some (Int32.ofNat (A 1 0 + n), 0, D1) ∧ In (B + 50) D1 := fun n h1 h2 => by
    obtain ⟨A1, D1, d1, l1, r1, i1, -, b1, -, t1⟩ := play_st kept_t h1 h2 h hi trivial hb hB
    have c0 := c_0 r1
    rw [t1] at c0
    have u1 := b1.1
    have u2 := b1.2.2.1
    exact ⟨D1, _, _, d1, c_9 r1, n_sub l1 (by omega), c0, _, r1, i1, b1⟩
  rw [fn_105_670]
  by_cases z : i = 0
  · have y : Int32.ofNat i = 0 := by rw [z]; rfl
    obtain ⟨D1, T, t, d1, c9, es, c0, p1⟩ := go (1 + v) (by omega) (by omega)
    refine ok_1 (D' := D1) ?_ p1
    simp only [c_9 h, if_true, c_0 h, l2', y, not_true, if_false, lv', e1, d1, c9, es, c0, n_add]
  · have y : ¬ Int32.ofNat i = 0 := ine (b := 0) (by omega) (by omega) z
    obtain ⟨D1, T, t, d1, c9, es, c0, p1⟩ := go (1 + x) (by omega) (by omega)
    refine ok_1 (D' := D1) ?_ p1
    simp only [c_9 h, if_true, c_0 h, l2', y, not_true, not_false_eq_true, if_false, lx', e1, d1, c9, es, c0, n_add]
theorem ok_mono {B' : Nat} {e : Option ((Int32 × am_DD) ⊕ (Int32 × Int32 × am_DD))} (hB : B ≤ B') (hB' : B' < 2 ^ 24) (h : okE B e) : okE B' e := by
  obtain ⟨x, h1, h2⟩ := h
  refine ⟨x, h1, ?_⟩
  cases x with
  | inl z => exact ⟨h2.1, In_mono hB hB' h2.2⟩
  | inr z =>
    obtain ⟨I, i1, i2, i3⟩ := h2
    refine ⟨I, i1, i2, fun D hD => ?_⟩
    obtain ⟨D', d1, d2⟩ := i3 D hD
    exact ⟨D', d1, In_mono hB hB' d2⟩
set_option maxHeartbeats 4000000 in
theorem a_21 (h : rel A D) (hi : inv A) (hb : bnd B A) (hB : B + 4000 ≤ Bf) (hBf : Bf < 2 ^ 24) {v : Int32} {g : Nat} (hg : (A 8 0 = 0 ∧ g = 0) ∨ g < A 8 0) : okE Bf (fn_105_21 am_F v w (Int32.ofNat (A 8 0)) (Int32.ofNat g) D) := by
  show okE Bf (fn_105_21 (99999 + 1) v w (Int32.ofNat (A 8 0)) (Int32.ofNat g) D)
  obtain ⟨x, hx, -, lx⟩ := low_l (v := v) (K := 14) (by omega) (by omega)
  have lx' : ∀ D, fn_70 v 14 D = some (Int32.ofNat x, D) := lx
  rw [fn_105_21]
  simp only [lx']
  have c88 := ok_mono (by omega) hBf (a_88 (w := w) h hi hb)
  have c171 := ok_mono (by omega) hBf (a_171 (w := w) h hi hb hg)
  have c302 := ok_mono (by omega) hBf (a_302 h hi hb (by omega) hg)
  have c356 := ok_mono (by omega) hBf (a_356 (w := w) h hi hb)
  have c447 := ok_mono (by omega) hBf (a_447 (w := w) h hi hb)
  have c512 := ok_mono (by omega) hBf (a_512 (w := w) h hi hb)
  have c608 := ok_mono (by omega) hBf (a_608 (w := w) h hi hb)
  have c636 := a_636 (w := w) ⟨A, h, hi, hb⟩ hB hBf
  have c670 := ok_mono (by omega) hBf (a_670 (w := w) h hi hb (by omega))
  have hcase : x = 0 ∨ x = 1 ∨ x = 2 ∨ x = 3 ∨ x = 4 ∨ x = 5 ∨ x = 6 ∨ x = 7 ∨ x = 8 ∨ x = 9 ∨ x = 10 ∨ x = 11 ∨ 12 ≤ x := by omega
  rcases hcase with rfl | rfl | rfl | rfl | rfl | rfl | rfl | rfl | rfl | rfl | rfl | rfl | hx2
  · rw [if_pos (show Int32.ofNat 0 = 0 by decide)]
    exact c88
  · rw [if_neg (show ¬ Int32.ofNat 1 = 0 by decide), if_pos (show Int32.ofNat 1 = 1 by decide)]
    exact c88
  · rw [if_neg (show ¬ Int32.ofNat 2 = 0 by decide), if_neg (show ¬ Int32.ofNat 2 = 1 by decide), if_pos (show Int32.ofNat 2 = 2 by decide)]
    exact c171
  · rw [if_neg (show ¬ Int32.ofNat 3 = 0 by decide), if_neg (show ¬ Int32.ofNat 3 = 1 by decide), if_neg (show ¬ Int32.ofNat 3 = 2 by decide), if_pos (show Int32.ofNat 3 = 3 by decide)]
    exact c171
  · rw [if_neg (show ¬ Int32.ofNat 4 = 0 by decide), if_neg (show ¬ Int32.ofNat 4 = 1 by decide), if_neg (show ¬ Int32.ofNat 4 = 2 by decide), if_neg (show ¬ Int32.ofNat 4 = 3 by decide), if_pos (show Int32.ofNat 4 = 4 by decide)]
    exact c171
  · rw [if_neg (show ¬ Int32.ofNat 5 = 0 by decide), if_neg (show ¬ Int32.ofNat 5 = 1 by decide), if_neg (show ¬ Int32.ofNat 5 = 2 by decide), if_neg (show ¬ Int32.ofNat 5 = 3 by decide), if_neg (show ¬ Int32.ofNat 5 = 4 by decide), if_pos (show Int32.ofNat 5 = 5 by decide)]
    exact c302
  · rw [if_neg (show ¬ Int32.ofNat 6 = 0 by decide), if_neg (show ¬ Int32.ofNat 6 = 1 by decide), if_neg (show ¬ Int32.ofNat 6 = 2 by decide), if_neg (show ¬ Int32.ofNat 6 = 3 by decide), if_neg (show ¬ Int32.ofNat 6 = 4 by decide), if_neg (show ¬ Int32.ofNat 6 = 5 by decide), if_pos (show Int32.ofNat 6 = 6 by decide)]
    exact c356
  · rw [if_neg (show ¬ Int32.ofNat 7 = 0 by decide), if_neg (show ¬ Int32.ofNat 7 = 1 by decide), if_neg (show ¬ Int32.ofNat 7 = 2 by decide), if_neg (show ¬ Int32.ofNat 7 = 3 by decide), if_neg (show ¬ Int32.ofNat 7 = 4 by decide), if_neg (show ¬ Int32.ofNat 7 = 5 by decide), if_neg (show ¬ Int32.ofNat 7 = 6 by decide), if_pos (show Int32.ofNat 7 = 7 by decide)]
    exact c447
  · rw [if_neg (show ¬ Int32.ofNat 8 = 0 by decide), if_neg (show ¬ Int32.ofNat 8 = 1 by decide), if_neg (show ¬ Int32.ofNat 8 = 2 by decide), if_neg (show ¬ Int32.ofNat 8 = 3 by decide), if_neg (show ¬ Int32.ofNat 8 = 4 by decide), if_neg (show ¬ Int32.ofNat 8 = 5 by decide), if_neg (show ¬ Int32.ofNat 8 = 6 by decide), if_neg (show ¬ Int32.ofNat 8 = 7 by decide), if_pos (show Int32.ofNat 8 = 8 by decide)]
    exact c512
  · rw [if_neg (show ¬ Int32.ofNat 9 = 0 by decide), if_neg (show ¬ Int32.ofNat 9 = 1 by decide), if_neg (show ¬ Int32.ofNat 9 = 2 by decide), if_neg (show ¬ Int32.ofNat 9 = 3 by decide), if_neg (show ¬ Int32.ofNat 9 = 4 by decide), if_neg (show ¬ Int32.ofNat 9 = 5 by decide), if_neg (show ¬ Int32.ofNat 9 = 6 by decide), if_neg (show ¬ Int32.ofNat 9 = 7 by decide), if_neg (show ¬ Int32.ofNat 9 = 8 by decide), if_pos (show Int32.ofNat 9 = 9 by decide)]
    exact c512
  · rw [if_neg (show ¬ Int32.ofNat 10 = 0 by decide), if_neg (show ¬ Int32.ofNat 10 = 1 by decide), if_neg (show ¬ Int32.ofNat 10 = 2 by decide), if_neg (show ¬ Int32.ofNat 10 = 3 by decide), if_neg (show ¬ Int32.ofNat 10 = 4 by decide), if_neg (show ¬ Int32.ofNat 10 = 5 by decide), if_neg (show ¬ Int32.ofNat 10 = 6 by decide), if_neg (show ¬ Int32.ofNat 10 = 7 by decide), if_neg (show ¬ Int32.ofNat 10 = 8 by decide), if_neg (show ¬ Int32.ofNat 10 = 9 by decide), if_pos (show Int32.ofNat 10 = 10 by decide)]
    exact c608
  · rw [if_neg (show ¬ Int32.ofNat 11 = 0 by decide), if_neg (show ¬ Int32.ofNat 11 = 1 by decide), if_neg (show ¬ Int32.ofNat 11 = 2 by decide), if_neg (show ¬ Int32.ofNat 11 = 3 by decide), if_neg (show ¬ Int32.ofNat 11 = 4 by decide), if_neg (show ¬ Int32.ofNat 11 = 5 by decide), if_neg (show ¬ Int32.ofNat 11 = 6 by decide), if_neg (show ¬ Int32.ofNat 11 = 7 by decide), if_neg (show ¬ Int32.ofNat 11 = 8 by decide), if_neg (show ¬ Int32.ofNat 11 = 9 by decide), if_neg (show ¬ Int32.ofNat 11 = 10 by decide), if_pos (show Int32.ofNat 11 = 11 by decide)]
    exact c636
  · rw [if_neg (show ¬ Int32.ofNat x = 0 from ine (b := 0) (by omega) (by omega) (by omega)), if_neg (show ¬ Int32.ofNat x = 1 from ine (b := 1) (by omega) (by omega) (by omega)), if_neg (show ¬ Int32.ofNat x = 2 from ine (b := 2) (by omega) (by omega) (by omega)), if_neg (show ¬ Int32.ofNat x = 3 from ine (b := 3) (by omega) (by omega) (by omega)), if_neg (show ¬ Int32.ofNat x = 4 from ine (b := 4) (by omega) (by omega) (by omega)), if_neg (show ¬ Int32.ofNat x = 5 from ine (b := 5) (by omega) (by omega) (by omega)), if_neg (show ¬ Int32.ofNat x = 6 from ine (b := 6) (by omega) (by omega) (by omega)), if_neg (show ¬ Int32.ofNat x = 7 from ine (b := 7) (by omega) (by omega) (by omega)), if_neg (show ¬ Int32.ofNat x = 8 from ine (b := 8) (by omega) (by omega) (by omega)), if_neg (show ¬ Int32.ofNat x = 9 from ine (b := 9) (by omega) (by omega) (by omega)), if_neg (show ¬ Int32.ofNat x = 10 from ine (b := 10) (by omega) (by omega) (by omega)), if_neg (show ¬ Int32.ofNat x = 11 from ine (b := 11) (by omega) (by omega) (by omega))]
    exact c670
/-! act -/
theorem h_act {v : Int32} (h : In B D) (hB : B + 4000 ≤ Bf) (hBf : Bf < 2 ^ 24) : ∃ x, fn_105 v w D = some x ∧ ln_actok (In Bf) x := by
  obtain ⟨A, r, hi, hb⟩ := h
  have hn := hi.1.1
  show okE Bf (fn_105 v w D)
  unfold fn_105
  simp only [c_1 r, if_true]
  by_cases z : A 8 0 = 0
  · have y : Int32.ofNat (A 8 0) = 0 := by rw [z]; rfl
    rw [if_neg (not_not_intro y)]
    exact a_21 (g := 0) r hi hb hB hBf (Or.inl ⟨z, rfl⟩)
  · have y : ¬ Int32.ofNat (A 8 0) = 0 := ine (b := 0) (by omega) (by omega) z
    obtain ⟨x, hx, -, lx⟩ := low_l (v := w) (K := A 8 0) (by omega) (by omega)
    rw [if_pos y]
    simp only [lx]
    exact a_21 r hi hb hB hBf (Or.inr hx)
end ACT
