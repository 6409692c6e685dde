/-! all balls of a beat; dropping; lifting; beats -/
/-- a property of the numbers that each step of a beat keeps -/
def kept (X : nD → Prop) : Prop := (∀ V V', bgn V V' → X V → X V') ∧ (∀ V V' w g t, inv V → pss V V' w g t → X V → X V') ∧ (∀ V V', inv V → drp V V' → X V → X V') ∧ (∀ V V' b, lft V V' b → X V → X V') ∧
  ∀ V V', (∀ a, a ≠ 19 → a ≠ 21 → a ≠ 23 → a ≠ 25 → V' a = V a) → V' 19 0 = V 19 0 → (∀ a j, (a = 21 ∨ a = 23 ∨ a = 25) → j < V 19 0 → V' a j = V a j) → X V → X V'
section BT3
variable {X : nD → Prop}
/-- the numbers as a beat begins, in its middle -/
def mid (X : nD → Prop) (T : Nat) (V : nD) : Prop := inv V ∧ bef V ∧ X V ∧ V 26 2 ≤ T
theorem ib_same {V V' : nD} (hr : ∀ a, a ≠ 19 → a ≠ 21 → a ≠ 23 → a ≠ 25 → V' a = V a) (h19 : V' 19 0 = V 19 0) (hb : ∀ a j, (a = 21 ∨ a = 23 ∨ a = 25) → j < V 19 0 → V' a j = V a j) (h : inv V) : inv V' := by
  obtain ⟨i1, ⟨b1, b2, b3, b4⟩, i3, i4⟩ := h
  refine ⟨ig_cg (hr 8 (by decide) (by decide) (by decide) (by decide)) (hr 10 (by decide) (by decide) (by decide) (by decide)) (hr 12 (by decide) (by decide) (by decide) (by decide)) (hr 14 (by decide) (by decide) (by decide) (by decide)) (hr 16 (by decide) (by decide) (by decide) (by decide)) (hr 18 (by decide) (by decide) (by decide) (by decide)) i1, ⟨?_, ?_, fun r h => ?_, fun r r' h1 h2 => ?_⟩, im_cg (by rw [hr 1 (by decide) (by decide) (by decide) (by decide)]) (hr 8 (by decide) (by decide) (by decide) (by decide)) (hr 18 (by decide) (by decide) (by decide) (by decide)) (hr 26 (by decide) (by decide) (by decide) (by decide)) (hr 28 (by decide) (by decide) (by decide) (by decide)) (hr 32 (by decide) (by decide) (by decide) (by decide)) i3, iw_cg (by rw [hr 1 (by decide) (by decide) (by decide) (by decide)]) (hr 3 (by decide) (by decide) (by decide) (by decide)) i4⟩
  · rw [h19, hr 1 (by decide) (by decide) (by decide) (by decide), hr 5 (by decide) (by decide) (by decide) (by decide)]
    exact b1
  · rw [h19, hr 1 (by decide) (by decide) (by decide) (by decide), hr 7 (by decide) (by decide) (by decide) (by decide)]
    exact b2
  · rw [h19] at h
    rw [hb 21 r (by omega) h, hb 23 r (by omega) h, hb 25 r (by omega) h, hr 8 (by decide) (by decide) (by decide) (by decide), hr 1 (by decide) (by decide) (by decide) (by decide)]
    exact b3 r h
  · rw [h19] at h2
    rw [hb 23 r (by omega) (by omega), hb 23 r' (by omega) h2]
    exact b4 r r' h1 h2
theorem lp_98 (hX : kept X) {n : Nat} (hn : n ≤ 40) : ∀ (c r N w T : Nat) (A : nD) (D : am_DD), r + c = n → c < N → w ≤ r → rel A D → mid X T (vA A w r n) →
    ∃ A' D', fn_98_12 N (Int32.ofNat n) (Int32.ofNat w) (Int32.ofNat r) D = some (0, D') ∧ rel A' D' ∧ mid X (T + c) A' ∧ A' 1 = A 1 ∧ A' 14 = A 14 ∧ A 26 2 ≤ A' 26 2 := by
  intro c
  induction c with
  | zero =>
    intro r N w T A D hr hN hw h hi
    obtain ⟨N, rfl⟩ := succ_of hN
    have e : r = n := by omega
    subst e
    have eV : ∀ a, a ≠ 19 → a ≠ 21 → a ≠ 23 → a ≠ 25 → nup A 19 0 w a = vA A w r r a := fun a h19 h21 h23 h25 => by rw [nu_row h19, vA_row ⟨h19, h21, h23, h25⟩]
    have e19 : nup A 19 0 w 19 0 = vA A w r r 19 0 := by rw [nu_self, vA_n]; omega
    have eb : ∀ a j, (a = 21 ∨ a = 23 ∨ a = 25) → j < vA A w r r 19 0 → nup A 19 0 w a j = vA A w r r a j := fun a j ha hj => by
      rw [vA_n] at hj
      rw [nu_ne (by omega), vA_lo (by omega) (by omega)]
    refine ⟨nup A 19 0 w, _, ?_, h.up 19 0 w (by decide), ⟨ib_same eV e19 eb hi.1, fun q hq => ?_, hX.2.2.2.2 _ _ eV e19 eb hi.2.2.1, ?_⟩, nu_row (by decide), nu_row (by decide), by rw [nu_row (by decide)]; exact Nat.le_refl _⟩
    · rw [fn_98_12, if_pos (ile (by omega) (by omega) (Nat.le_refl _))]
    · rw [e19] at hq
      rw [eb 23 q (by omega) hq, eV 1 (by decide) (by decide) (by decide) (by decide)]
      exact hi.2.1 q hq
    · rw [eV 26 (by decide) (by decide) (by decide) (by decide)]
      exact hi.2.2.2
  | succ c ih =>
    intro r N w T A D hr hN hw h hi
    obtain ⟨N, rfl⟩ := succ_of hN
    obtain ⟨w', g, t, A1, D1, b1, b2, b3, b4⟩ := ball1 h hi.1 hw (show r < n by omega) hn
    have p1 : A1 1 = A 1 := by
      have := b4.2.1.1
      rw [vA_row (by decide), vA_row (by decide)] at this
      exact this
    have p14 : A1 14 = A 14 := by
      have := b4.2.1.2.2.2.2.1
      rw [vA_row (by decide), vA_row (by decide)] at this
      exact this
    have p26 : A1 26 2 = A 26 2 + 1 := by
      have := b4.2.2.2.1.1
      rw [vA_row (by decide), vA_row (by decide)] at this
      exact this
    obtain ⟨A2, D2, c1, c2, c3, c4, c5, c6⟩ := ih (r + 1) N w' (T + 1) A1 D1 (by omega) (by omega) b1 b3 ⟨inv_pss hi.1 b4, bef_pss hi.2.1 b4, hX.2.1 _ _ _ _ _ hi.1 b4 hi.2.2.1, by
      have := hi.2.2.2
      rw [vA_row (by decide)] at this ⊢
      omega⟩
    refine ⟨A2, D2, ?_, c2, ?_, c4.trans p1, c5.trans p14, by omega⟩
    · rw [b2 N]
      exact c1
    · rw [show T + (c + 1) = T + 1 + c by omega]
      exact c3
/-- all balls pass -/
theorem m_pass (hX : kept X) {T : Nat} {A : nD} {D : am_DD} (h : rel A D) (hi : mid X T A) : ∃ A' D', fn_98 D = some (0, D') ∧ rel A' D' ∧ mid X (T + A 19 0) A' ∧ A' 1 = A 1 ∧ A' 14 = A 14 ∧ A 26 2 ≤ A' 26 2 := by
  have hn : A 19 0 ≤ 40 := by have := hi.1.2.1.1; omega
  have e19 : vA A 0 0 (A 19 0) 19 0 = A 19 0 := by rw [vA_n]; omega
  have er : ∀ a, a ≠ 19 → a ≠ 21 → a ≠ 23 → a ≠ 25 → vA A 0 0 (A 19 0) a = A a := fun a h19 h21 h23 h25 => vA_row ⟨h19, h21, h23, h25⟩
  have eb : ∀ a j, (a = 21 ∨ a = 23 ∨ a = 25) → j < A 19 0 → vA A 0 0 (A 19 0) a j = A a j := fun a j ha hj => by rw [vA_hi (Nat.zero_le _) ha, Nat.sub_self, Nat.add_zero]
  have hm : mid X T (vA A 0 0 (A 19 0)) := by
    refine ⟨ib_same er e19 eb hi.1, fun r hr => ?_, hX.2.2.2.2 _ _ er e19 eb hi.2.2.1, by rw [er 26 (by decide) (by decide) (by decide) (by decide)]; exact hi.2.2.2⟩
    rw [e19] at hr
    rw [eb 23 r (by omega) hr, er 1 (by decide) (by decide) (by decide) (by decide)]
    exact hi.2.1 r hr
  have q := lp_98 hX hn (A 19 0) 0 100000 0 T A D (by omega) (by omega) (Nat.le_refl _) h hm
  unfold fn_98 am_F
  rw [h.a19]
  exact q
/-- a ball is dropped, or not -/
theorem m_drop1 {A : nD} {D : am_DD} (h : rel A D) (hi : inv A) (hB : A 1 0 < 2 ^ 24) : ∃ A' D', fn_100 D = some (0, D') ∧ rel A' D' ∧ (A' = A ∨ drp A A') := by
  have hm := hi.1.1
  obtain ⟨w1, w2, w3, w4, w5⟩ := hi.2.2.2
  have hb1 := hi.2.1.1
  have hn : A 19 0 ≤ 40 := by omega
  have e0 : rw_at (D 3) 2 0 = Int32.ofNat (A 3 0) := by
    rw [← h.a3 (k := 0) (by decide)]
    exact rw_at_nI (k := 0) (by decide) (by decide)
  have n0 : ¬ Int32.ofNat (A 3 0) ≤ 0 := nle (b := 0) (by omega) (by omega) (by omega)
  have n0' : ¬ Int32.ofNat (A 3 0) = 0 := ine (b := 0) (by omega) (by omega) (by omega)
  have em : Int32.ofNat (A 1 0) - Int32.ofNat (A 1 0) / Int32.ofNat (A 3 0) * Int32.ofNat (A 3 0) = Int32.ofNat (A 1 0 % A 3 0) := n_mod (by omega) (by omega) (by omega)
  unfold fn_100
  rw [e0, if_neg n0, if_neg n0', h.a1 (k := 0) (by decide), em, h.a1 (k := 2) (by decide), h.a1 (k := 1) (by decide)]
  by_cases c1 : A 1 0 % A 3 0 = 0
  · have q1 : Int32.ofNat (A 1 0 % A 3 0) = 0 := by rw [c1]; rfl
    rw [if_neg (not_not_intro q1)]
    by_cases c2 : A 1 2 = 0
    · have q2 : Int32.ofNat (A 1 2) ≤ 0 := ile (b := 0) (by omega) (by omega) (by omega)
      rw [if_pos q2]
      exact ⟨A, D, rfl, h, Or.inl rfl⟩
    · have q2 : ¬ Int32.ofNat (A 1 2) ≤ 0 := nle (b := 0) (by omega) (by omega) (by omega)
      rw [if_neg q2]
      by_cases c3 : A 1 1 = 0
      · have q3 : Int32.ofNat (A 1 1) ≤ 0 := ile (b := 0) (by omega) (by omega) (by omega)
        rw [if_pos q3]
        exact ⟨A, D, rfl, h, Or.inl rfl⟩
      · have q3 : ¬ Int32.ofNat (A 1 1) ≤ 0 := nle (b := 0) (by omega) (by omega) (by omega)
        rw [if_neg q3, q_any h hm]
        dsimp only
        by_cases c4 : A 8 0 = 0
        · rw [if_pos c4, if_pos rfl]
          exact ⟨A, D, rfl, h, Or.inl rfl⟩
        · rw [if_neg c4, if_neg i01]
          have z0 : (0 : Int32) = Int32.ofNat 0 := rfl
          have s1 : Int32.ofNat (A 1 1) - 1 = Int32.ofNat (A 1 1 - 1) := n_sub (b := 1) (by omega) (by omega)
          have s2 : Int32.ofNat (A 1 2) - 1 = Int32.ofNat (A 1 2 - 1) := n_sub (b := 1) (by omega) (by omega)
          have u2 : am_upd D 1 1 (Int32.ofNat (A 1 1 - 1)) 1 2 = Int32.ofNat (A 1 2) := by rw [u_ne (by omega), h.a1 (by decide)]
          have u3 : am_upd (am_upd D 1 1 (Int32.ofNat (A 1 1 - 1))) 1 2 (Int32.ofNat (A 1 2 - 1)) 1 3 = Int32.ofNat (A 1 3) := by rw [u_ne (by omega), u_ne (by omega), h.a1 (by decide)]
          rw [h.a1 (k := 1) (by decide), s1, u2, s2, u3, nI_up]
          have r3 := ((h.up 1 1 (A 1 1 - 1) (by decide)).up 1 2 (A 1 2 - 1) (by decide)).up 1 3 (A 1 3 + 1) (by decide)
          have v0 : am_upd (am_upd (am_upd D 1 1 (Int32.ofNat (A 1 1 - 1))) 1 2 (Int32.ofNat (A 1 2 - 1))) 1 3 (Int32.ofNat (A 1 3 + 1)) 1 0 = Int32.ofNat (A 1 0) := by rw [u_ne (by omega), u_ne (by omega), u_ne (by omega), h.a1 (by decide)]
          rw [v0]
          have v19 : am_upd (am_upd (am_upd D 1 1 (Int32.ofNat (A 1 1 - 1))) 1 2 (Int32.ofNat (A 1 2 - 1))) 1 3 (Int32.ofNat (A 1 3 + 1)) 19 0 = Int32.ofNat (A 19 0) := by rw [u_row (show 19 ≠ 1 by decide), u_row (show 19 ≠ 1 by decide), u_row (show 19 ≠ 1 by decide), h.a19]
          generalize hD3 : am_upd (am_upd (am_upd D 1 1 (Int32.ofNat (A 1 1 - 1))) 1 2 (Int32.ofNat (A 1 2 - 1))) 1 3 (Int32.ofNat (A 1 3 + 1)) = D3 at r3 v19
          have r7 := (((r3.up 21 (A 19 0) 0 (by decide)).up 23 (A 19 0) (A 1 0) (by decide)).up 25 (A 19 0) 0 (by decide)).up 19 0 (A 19 0 + 1) (by decide)
          have p21 : ∀ v, rw_put D3 21 40 (Int32.ofNat (A 19 0)) v = am_upd D3 21 (A 19 0) v := fun v => rw_put_nI (by omega) (by decide)
          have f99 : fn_99 (Int32.ofNat (A 1 0)) D3 = some (0, am_upd (am_upd (am_upd (am_upd D3 21 (A 19 0) (Int32.ofNat 0)) 23 (A 19 0) (Int32.ofNat (A 1 0))) 25 (A 19 0) (Int32.ofNat 0)) 19 0 (Int32.ofNat (A 19 0 + 1))) := by
            unfold fn_99
            rw [v19, p21, u_row (show 19 ≠ 21 by decide), v19, rw_put_nI (by omega) (by decide), u_row (show 19 ≠ 23 by decide), u_row (show 19 ≠ 21 by decide), v19, rw_put_nI (by omega) (by decide), u_row (show 19 ≠ 25 by decide), u_row (show 19 ≠ 23 by decide), u_row (show 19 ≠ 21 by decide), v19, nI_up]
            rfl
          rw [f99]
          refine ⟨_, _, rfl, r7, Or.inr ⟨⟨by omega, by omega, by omega⟩, ⟨?_, ?_, ?_, ?_⟩, ⟨?_, ?_, ?_, ?_, ?_, ?_, ?_, ?_, ?_, ?_, ?_, ?_⟩, ?_, fun j => ?_, fun j => ?_, fun j => ?_⟩⟩
          · rw [nu_row (by decide), nu_row (by decide), nu_row (by decide), nu_row (by decide), nu_ne (by omega), nu_ne (by omega), nu_ne (by omega)]
          · rw [nu_row (by decide), nu_row (by decide), nu_row (by decide), nu_row (by decide), nu_ne (by omega), nu_ne (by omega), nu_self]
          · rw [nu_row (by decide), nu_row (by decide), nu_row (by decide), nu_row (by decide), nu_ne (by omega), nu_self]
          · rw [nu_row (by decide), nu_row (by decide), nu_row (by decide), nu_row (by decide), nu_self]
          · rw [nu_row (by decide), nu_row (by decide), nu_row (by decide), nu_row (by decide), nu_row (by decide), nu_row (by decide), nu_row (by decide)]
          · rw [nu_row (by decide), nu_row (by decide), nu_row (by decide), nu_row (by decide), nu_row (by decide), nu_row (by decide), nu_row (by decide)]
          · rw [nu_row (by decide), nu_row (by decide), nu_row (by decide), nu_row (by decide), nu_row (by decide), nu_row (by decide), nu_row (by decide)]
          · rw [nu_row (by decide), nu_row (by decide), nu_row (by decide), nu_row (by decide), nu_row (by decide), nu_row (by decide), nu_row (by decide)]
          · rw [nu_row (by decide), nu_row (by decide), nu_row (by decide), nu_row (by decide), nu_row (by decide), nu_row (by decide), nu_row (by decide)]
          · rw [nu_row (by decide), nu_row (by decide), nu_row (by decide), nu_row (by decide), nu_row (by decide), nu_row (by decide), nu_row (by decide)]
          · rw [nu_row (by decide), nu_row (by decide), nu_row (by decide), nu_row (by decide), nu_row (by decide), nu_row (by decide), nu_row (by decide)]
          · rw [nu_row (by decide), nu_row (by decide), nu_row (by decide), nu_row (by decide), nu_row (by decide), nu_row (by decide), nu_row (by decide)]
          · rw [nu_row (by decide), nu_row (by decide), nu_row (by decide), nu_row (by decide), nu_row (by decide), nu_row (by decide), nu_row (by decide)]
          · rw [nu_row (by decide), nu_row (by decide), nu_row (by decide), nu_row (by decide), nu_row (by decide), nu_row (by decide), nu_row (by decide)]
          · rw [nu_row (by decide), nu_row (by decide), nu_row (by decide), nu_row (by decide), nu_row (by decide), nu_row (by decide), nu_row (by decide)]
          · rw [nu_row (by decide), nu_row (by decide), nu_row (by decide), nu_row (by decide), nu_row (by decide), nu_row (by decide), nu_row (by decide)]
          · rw [nu_self]
          · rw [nu_row (by decide), nu_row (by decide), nu_row (by decide)]
            by_cases z : j = A 19 0
            · rw [if_pos z, z, nu_self]
            · rw [if_neg z, nu_ne (fun q => z q.2), nu_row (by decide), nu_row (by decide), nu_row (by decide)]
          · rw [nu_row (by decide), nu_row (by decide)]
            by_cases z : j = A 19 0
            · rw [if_pos z, z, nu_self]
            · rw [if_neg z, nu_ne (fun q => z q.2), nu_row (by decide), nu_row (by decide), nu_row (by decide), nu_row (by decide)]
          · rw [nu_row (by decide)]
            by_cases z : j = A 19 0
            · rw [if_pos z, z, nu_self]
            · rw [if_neg z, nu_ne (fun q => z q.2), nu_row (by decide), nu_row (by decide), nu_row (by decide), nu_row (by decide), nu_row (by decide)]
  · have q1 : ¬ Int32.ofNat (A 1 0 % A 3 0) = 0 := ine (b := 0) (by have := Nat.mod_le (A 1 0) (A 3 0); omega) (by omega) c1
    rw [if_pos q1]
    exact ⟨A, D, rfl, h, Or.inl rfl⟩
/-- a ball is lifted, or not -/
theorem lp_101 {A : nD} {D : am_DD} (h : rel A D) (hi : inv A) : ∀ (c x2 x1 N : Nat), x2 + c = 5 → c < N → x1 < 5 → ∃ A' D', fn_101_4 N (Int32.ofNat x1) (Int32.ofNat x2) D = some (0, D') ∧ rel A' D' ∧ (A' = A ∨ ∃ b, lft A A' b) := by
  obtain ⟨w1, w2, w3, w4, w5⟩ := hi.2.2.2
  have hb1 := hi.2.1.1
  have h40 : ∀ b, b < 5 → A 5 b ≤ 40 := fun b hb => by
    obtain rfl | rfl | rfl | rfl | rfl : b = 0 ∨ b = 1 ∨ b = 2 ∨ b = 3 ∨ b = 4 := by omega
    all_goals omega
  have e1 : rw_at (D 3) 2 1 = Int32.ofNat (A 3 1) := by
    rw [← h.a3 (k := 1) (by decide)]
    exact rw_at_nI (k := 1) (by decide) (by decide)
  intro c
  induction c with
  | zero =>
    intro x2 x1 N hx hN hx1
    obtain ⟨N, rfl⟩ := succ_of hN
    have q5 : (5 : Int32) ≤ Int32.ofNat x2 := ile (a := 5) (by omega) (by omega) (by omega)
    have hx40 := h40 x1 hx1
    rw [fn_101_4, if_pos q5, rw_at_nI hx1 (by decide), h.a5 hx1, e1]
    by_cases c1 : A 5 x1 < A 3 1
    · rw [if_pos (ilt (by omega) (by omega) c1)]
      exact ⟨A, D, rfl, h, Or.inl rfl⟩
    · have em : Int32.ofNat (A 5 x1) + (-1) = Int32.ofNat (A 5 x1 - 1) := by
        rw [← Int32.sub_eq_add_neg]
        exact n_sub (b := 1) (by omega) (by omega)
      have r3 := ((h.up 5 x1 (A 5 x1 - 1) (by decide)).up 1 1 (A 1 1 + 1) (by decide)).up 1 4 (A 1 4 + 1) (by decide)
      rw [if_neg (nlt (by omega) (by omega) (by omega)), rw_raise_nI hx1 (by decide), h.a5 hx1, em, u_row (show 1 ≠ 5 by decide), h.a1 (by decide), nI_up, u_ne (show ¬ (1 = 1 ∧ 4 = 1) by decide), u_row (show 1 ≠ 5 by decide), h.a1 (by decide), nI_up]
      refine ⟨_, _, rfl, r3, Or.inr ⟨x1, ⟨hx1, by omega⟩, ⟨?_, ?_, ?_, ?_⟩, fun k => ?_, ?_, ?_, ?_, ?_, ?_, ?_, ?_, ?_, ?_, ?_, ?_, ?_, ?_, ?_, ?_⟩⟩
      · rw [nu_ne (by omega), nu_ne (by omega), nu_row (by decide)]
      · rw [nu_ne (by omega), nu_self]
      · rw [nu_ne (by omega), nu_ne (by omega), nu_row (by decide)]
      · rw [nu_ne (by omega), nu_ne (by omega), nu_row (by decide)]
      · rw [nu_row (by decide), nu_row (by decide)]
        by_cases z : k = x1
        · rw [if_pos z, z, nu_self]
        · rw [if_neg z, nu_ne (fun q => z q.2)]
      all_goals rw [nu_row (by decide), nu_row (by decide), nu_row (by decide)]
  | succ c ih =>
    intro x2 x1 N hx hN hx1
    obtain ⟨N, rfl⟩ := succ_of hN
    have q5 : ¬ (5 : Int32) ≤ Int32.ofNat x2 := nle (a := 5) (by omega) (by omega) (by omega)
    rw [fn_101_4, if_neg q5, nI_up]
    split
    · exact ih (x2 + 1) x1 N (by omega) (by omega) hx1
    · exact ih (x2 + 1) x2 N (by omega) (by omega) (by omega)
theorem m_lift {A : nD} {D : am_DD} (h : rel A D) (hi : inv A) : ∃ A' D', fn_101 D = some (0, D') ∧ rel A' D' ∧ (A' = A ∨ ∃ b, lft A A' b) := lp_101 h hi 4 1 0 100000 (by omega) (by omega) (by omega)
/-- a beat -/
def pl (X : nD → Prop) (A : nD) : Prop := inv A ∧ X A ∧ A 26 2 ≤ 40 * A 1 0 ∧ A 1 3 ≤ A 1 0
theorem beat1 (hX : kept X) {A : nD} {D : am_DD} (h : rel A D) (hi : pl X A) (hB : A 1 0 + 1 < 2 ^ 24) : ∃ A' D1 D2 D', fn_98 (am_upd D 1 0 (D 1 0 + 1)) = some (0, D1) ∧ fn_100 D1 = some (0, D2) ∧ fn_101 D2 = some (0, D') ∧ rel A' D' ∧ pl X A' ∧ A' 1 0 = A 1 0 + 1 ∧ A' 14 = A 14 ∧ A 26 2 ≤ A' 26 2 := by
  obtain ⟨i1, i2, i3, i4⟩ := hi
  have hn : A 19 0 ≤ 40 := by have := i1.2.1.1; omega
  have hb : bgn A (nup A 1 0 (A 1 0 + 1)) := ⟨nu_self _ _ _ _, fun k hk => nu_ne (fun q => hk q.2), fun a ha => nu_row ha⟩
  obtain ⟨j1, j2⟩ := inv_bgn i1 hb
  have r0 : rel (nup A 1 0 (A 1 0 + 1)) (am_upd D 1 0 (D 1 0 + 1)) := by
    rw [h.a1 (by decide), nI_up]
    exact h.up 1 0 _ (by decide)
  have m0 : mid X (40 * A 1 0) (nup A 1 0 (A 1 0 + 1)) := ⟨j1, j2, hX.1 _ _ hb i2, by rw [nu_row (by decide)]; exact i3⟩
  obtain ⟨A1, D1, d1, r1, m1, p1, p14, p26⟩ := m_pass hX r0 m0
  rw [nu_row (show 19 ≠ 1 by decide)] at m1
  rw [nu_row (show 14 ≠ 1 by decide)] at p14
  rw [nu_row (show 26 ≠ 1 by decide)] at p26
  have b0 : A1 1 0 = A 1 0 + 1 := by rw [p1, nu_self]
  have b3 : A1 1 3 = A 1 3 := by rw [p1, nu_ne (by omega)]
  obtain ⟨k1, k2, k3, k4⟩ := m1
  obtain ⟨A2, D2, d2, r2, c2⟩ := m_drop1 r1 k1 (by omega)
  have q2 : inv A2 ∧ X A2 ∧ A2 1 0 = A1 1 0 ∧ A2 1 3 ≤ A1 1 3 + 1 ∧ A2 14 = A1 14 ∧ A2 26 = A1 26 := by
    rcases c2 with rfl | c2
    · exact ⟨k1, k3, rfl, by omega, rfl, rfl⟩
    · exact ⟨inv_drp k1 k2 (by omega) c2, hX.2.2.1 _ _ k1 c2 k3, c2.2.1.1, by have := c2.2.1.2.2.2; omega, c2.2.2.1.2.2.2.2.2.2.1, c2.2.2.1.2.2.2.2.2.2.2.2.2.1⟩
  obtain ⟨l1, l2, l3, l4, l5, l6⟩ := q2
  obtain ⟨A3, D3, d3, r3, c3⟩ := m_lift r2 l1
  have q3 : inv A3 ∧ X A3 ∧ A3 1 0 = A2 1 0 ∧ A3 1 3 = A2 1 3 ∧ A3 14 = A2 14 ∧ A3 26 = A2 26 := by
    rcases c3 with rfl | ⟨b, c3⟩
    · exact ⟨l1, l2, rfl, rfl, rfl, rfl⟩
    · exact ⟨inv_lft l1 c3, hX.2.2.2.1 _ _ _ c3 l2, c3.2.1.1, c3.2.1.2.2.2, c3.2.2.2.2.2.2.2.2.1, c3.2.2.2.2.2.2.2.2.2.2.2.1⟩
  obtain ⟨o1, o2, o3, o4, o5, o6⟩ := q3
  refine ⟨A3, D1, D2, D3, d1, d2, d3, r3, ⟨o1, o2, ?_, by omega⟩, by omega, by rw [o5, l5, p14], by rw [o6, l6]; exact p26⟩
  rw [o6, l6]
  omega
theorem lp_102 (hX : kept X) {n : Nat} (hn : n ≤ 50) {x2 : Int32} : ∀ (c i N : Nat) (A : nD) (D : am_DD), i + c = n → c < N → rel A D → pl X A → A 1 0 + c < 2 ^ 24 → ∃ A' D', fn_102_10 N (Int32.ofNat n) x2 (Int32.ofNat i) D = some (Int32.ofNat (A' 26 2) - x2, D') ∧ rel A' D' ∧ pl X A' ∧ A' 1 0 = A 1 0 + c ∧ A' 14 = A 14 ∧ A 26 2 ≤ A' 26 2 := by
  intro c
  induction c with
  | zero =>
    intro i N A D hi hN h hp hB
    obtain ⟨N, rfl⟩ := succ_of hN
    refine ⟨A, D, ?_, h, hp, rfl, rfl, Nat.le_refl _⟩
    rw [fn_102_10, if_pos (ile (by omega) (by omega) (by omega)), h.a26 (by decide)]
  | succ c ih =>
    intro i N A D hi hN h hp hB
    obtain ⟨N, rfl⟩ := succ_of hN
    obtain ⟨A1, D1, D2, D3, d1, d2, d3, r3, p3, b0, b14, b26⟩ := beat1 hX h hp (by omega)
    obtain ⟨A4, D4, e1, e2, e3, e4, e5, e6⟩ := ih (i + 1) N A1 D3 (by omega) (by omega) r3 p3 (by omega)
    refine ⟨A4, D4, ?_, e2, e3, by omega, e5.trans b14, by omega⟩
    rw [fn_102_10, if_neg (nle (by omega) (by omega) (by omega)), d1]
    dsimp only
    rw [d2]
    dsimp only
    rw [d3]
    dsimp only
    rw [nI_up]
    exact e1
theorem m_play (hX : kept X) {A : nD} {D : am_DD} {n : Nat} (h1 : 1 ≤ n) (h2 : n ≤ 50) (h : rel A D) (hp : pl X A) (hB : A 1 0 + n < 2 ^ 24) : ∃ A' D', fn_103 (Int32.ofNat n) D = some (Int32.ofNat (A' 26 2) - Int32.ofNat (A 26 2), 0, D') ∧ rel A' D' ∧ pl X A' ∧ A' 1 0 = A 1 0 + n ∧ A' 14 = A 14 ∧ A 26 2 ≤ A' 26 2 := by
  obtain ⟨D1, d1, r1⟩ := push h
  have n1 : ¬ Int32.ofNat n < 1 := nlt (b := 1) (by omega) (by omega) (by omega)
  have n50 : Int32.ofNat n ≤ 50 := ile (b := 50) (by omega) (by omega) h2
  obtain ⟨A2, D2, e1, e2⟩ := lp_102 hX h2 (x2 := Int32.ofNat (A 26 2)) n 0 100000 A D1 (by omega) (by omega) r1 hp hB
  have e1' : fn_102_10 100000 (Int32.ofNat n) (Int32.ofNat (A 26 2)) 0 D1 = some (Int32.ofNat (A2 26 2) - Int32.ofNat (A 26 2), D2) := e1
  refine ⟨A2, D2, ?_, e2⟩
  unfold fn_103 fn_102 am_F
  rw [if_neg n1, if_pos n50, d1]
  dsimp only
  rw [r1.a26 (by decide), e1']
end BT3
