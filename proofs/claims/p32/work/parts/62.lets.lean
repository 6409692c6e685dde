/-! what a method of the class leaves as it was: the frame's own row -/
theorem at_scr {SK : List am_SC} : am_at SK am_scr = none := if_neg (by decide)
theorem ne_scr {SK : List am_SC} {r : Nat} {x : am_SC} (h : am_at SK r = some x) : am_scr ≠ r := fun z => by
  subst z
  rw [at_scr] at h
  cases h
theorem wr_fr {al : Bool} {ins : Instr} {a b : Nat} {S S' : List Value} {SK SK' : List am_SC} {D D' : am_DD} (h : am_wr al none ins a b S SK D = some (S', SK', D')) : D' am_scr = D am_scr := by
  unfold am_wr at h
  split at h
  · split at h
    next hat =>
      split at h
      · split at h
        · split at h
          · cases h
            exact u_row (ne_scr hat)
          · cases h
        · split at h
          · cases h
            rfl
          · cases h
        · cases h
      · cases h
    · cases h
  · split at h
    · cases h
    · split at h
      next hat =>
        split at h
        · cases h
        · cases h
          exact u_row (ne_scr hat)
      · cases h
  · split at h
    · split at h
      · cases h
      · cases h
        rfl
    · cases h
  · cases h
theorem lib_fr {a b : Nat} {S S' : List Value} {SK : List am_SC} {D D' : am_DD} (h : am_lib a b S SK D = some (S', D')) : D' am_scr = D am_scr := by
  unfold am_lib at h
  split at h
  · split at h
    · cases h
      rfl
    · cases h
  · split at h
    · cases h
      rfl
    · cases h
  · split at h
    · cases h
      rfl
    · cases h
  · split at h
    next h1 h2 =>
      split at h
      · cases h
        funext k
        exact if_neg (ne_scr h2)
      · cases h
    · cases h
  · cases h
    rfl
  · cases h
theorem step_fr {al : Bool} {ins : Instr} {len g a b pc pc' c s : Nat} {L L' : am_LL} {S S' : List Value} {SK SK' : List am_SC} {D D' : am_DD} (h : am_step al none ins len g a b pc L S SK D = some (pc', L', S', SK', D', c, s)) : D' am_scr = D am_scr := by
  unfold am_step at h
  split at h
  · split at h <;> cases h
    rfl
  · split at h <;> cases h
    rfl
  · split at h <;> cases h
    rfl
  · split at h <;> cases h
    rfl
  · split at h
    next hw =>
      cases h
      exact wr_fr hw
    · cases h
  · split at h <;> cases h
    rfl
  · split at h
    next hw =>
      cases h
      exact lib_fr hw
    · cases h
  · cases h
theorem run_fr {al : Bool} : ∀ (n i pc : Nat) (L : am_LL) (S : List Value) (SK : List am_SC) (D : am_DD) (r : am_R) (SK' : List am_SC) (D' : am_DD) (c s : Nat), am_run al n none i pc L S SK D = some (r, SK', D', c, s) → D' am_scr = D am_scr := by
  intro n
  induction n with
  | zero => intro i pc L S SK D r SK' D' c s h; cases h
  | succ n ih =>
    intro i pc L S SK D r SK' D' c s h
    rw [am_run] at h
    split at h
    · cases h
    · split at h
      · cases h
        rfl
      · split at h
        · split at h
          · cases h
          · split at h
            · cases h
            · split at h
              · cases h
              next h1 =>
                have f1 := ih _ _ _ _ _ _ _ _ _ _ _ h1
                split at h
                · cases h
                · split at h
                  · cases h
                  next h2 =>
                    cases h
                    exact (ih _ _ _ _ _ _ _ _ _ _ _ h2).trans f1
                · split at h
                  · cases h
                  · split at h
                    · cases h
                    · split at h
                      · cases h
                      · split at h
                        · cases h
                        next h2 =>
                          cases h
                          exact (ih _ _ _ _ _ _ _ _ _ _ _ h2).trans f1
        · split at h
          · cases h
          next h1 =>
            split at h
            · cases h
            next h2 =>
              cases h
              exact (ih _ _ _ _ _ _ _ _ _ _ _ h2).trans (step_fr h1)
theorem fr_of {a : Nat} {As : List Value} {D D' : am_DD} {o : Option Value ⊕ Nat} (h : ay_mo a As D o D') : D' am_scr = D am_scr := by
  obtain ⟨r, ⟨n, hn⟩, -⟩ := h none
  exact run_fr n _ _ _ _ _ _ _ _ _ _ _ hn
/-! low -/
def lw (v : Int32) (K : Nat) : Nat := (v &&& 2147483647).toNatClampNeg % K
theorem n_and (v : Int32) : ∃ n : Nat, v &&& 2147483647 = Int32.ofNat n ∧ n < 2 ^ 31 := by
  have hm : (v &&& 2147483647).toBitVec.msb = false := by
    rw [Int32.toBitVec_and, BitVec.msb_and]
    exact Bool.and_false _
  have h0 : 0 ≤ (v &&& 2147483647).toInt := by
    show 0 ≤ (v &&& 2147483647).toBitVec.toInt
    rw [BitVec.toInt_eq_toNat_of_msb hm]
    omega
  obtain ⟨n, h1, -, h3⟩ := rng_nat (a := v &&& 2147483647) (hi := 2147483647) ⟨h0, i_b2 _⟩
  exact ⟨n, h1, h3⟩
theorem low_n {v : Int32} {D : am_DD} {K : Nat} (h0 : 0 < K) (hK : K < 2 ^ 31) : fn_70 v (Int32.ofNat K) D = some (Int32.ofNat (lw v K), D) := by
  obtain ⟨n, h1, h2⟩ := n_and v
  have q : ¬ Int32.ofNat K = 0 := ine (b := 0) hK (by omega) (by omega)
  unfold fn_70 lw
  rw [if_neg q, h1, n_mod h2 hK h0, c_ofNat h2]
theorem lw_lt {v : Int32} {K : Nat} (h0 : 0 < K) : lw v K < K := Nat.mod_lt _ h0
/-! letsOut: the end -/
def due (A : nD) (m t : Nat) : Nat := if t < 12 then (if t < A 8 0 then lvs A t + ar A m t else 0) else A 7 (t - 12) + ar A m (8 + t)
section LETS
variable {A0 A : nD} {D : am_DD} {B : Nat}
set_option maxHeartbeats 4000000 in
theorem lp_104_276 {m n0 : Nat} (h0 : inv A0) (hb0 : bnd B A0) (hm0 : 0 < A0 8 0) (hn0 : A0 8 0 = n0) (hm1 : m ≤ 40) (h : rel A D) (hi : inv A) (hf : flow A0 m A) (hd : ∀ j, j < 17 → D am_scr j = Int32.ofNat (due A0 m j)) : ∀ (c t N : Nat), t + c = 17 → c < N → fn_104_276 N (Int32.ofNat m) (Int32.ofNat n0) (Int32.ofNat m) (Int32.ofNat t) D = some (1, D) := by
  have hn := h0.1.1
  have hn' : A 19 0 ≤ 40 := by have := hi.2.1.1; omega
  have hw' := hi.2.2.2.2.2.2.2
  intro c
  induction c with
  | zero =>
    intro t N ht hN
    obtain ⟨N, rfl⟩ := succ_of hN
    have q : (17 : Int32) ≤ Int32.ofNat t := ile (a := 17) (by omega) (by omega) (by omega)
    rw [fn_104_276, if_pos q, if_neg (not_not_intro rfl)]
  | succ c ih =>
    intro t N ht hN
    obtain ⟨N, rfl⟩ := succ_of hN
    have q : ¬ (17 : Int32) ≤ Int32.ofNat t := nle (a := 17) (by omega) (by omega) (by omega)
    have nxt := ih (t + 1) N (by omega) (by omega)
    rw [fn_104_276]
    by_cases z1 : A 19 0 = 0
    · have y1 : Int32.ofNat (A 19 0) = 0 := by rw [z1]; rfl
      by_cases z2 : A 1 2 = 0
      · have y2 : Int32.ofNat (A 1 2) = 0 := by rw [z2]; rfl
        obtain ⟨f8, f18, f7⟩ := flow_end h0.1 hm0 z1 z2 hf
        have ht17 : t < 17 := by omega
        have cl : (Int32.ofNat t).toNatClampNeg = t := c_ofNat (by omega)
        have nbd : ¬ (Int32.ofNat t < 0 ∨ 17 ≤ t) := fun z => z.elim (fun y => nI_pos (n := t) (by omega) y) (fun y => by omega)
        by_cases z3 : 12 ≤ t
        · have y3 : (12 : Int32) ≤ Int32.ofNat t := ile (a := 12) (by omega) (by omega) z3
          have e1 : Int32.ofNat t - 12 = Int32.ofNat (t - 12) := n_sub (b := 12) (by omega) (by omega)
          have e2 : due A0 m t = A 7 (t - 12) := by
            unfold due
            rw [if_neg (by omega), f7 (t - 12) (by omega), show 20 + (t - 12) = 8 + t by omega]
          simp only [q, if_false, c_3 h, if_true, y1, not_true, c_4 h, y2, nbd, y3, e1, b_1 h (show t - 12 < 5 by omega), cl, hd t ht17, e2, nI_up]
          exact nxt
        · have y3 : ¬ (12 : Int32) ≤ Int32.ofNat t := nle (a := 12) (by omega) (by omega) (by omega)
          by_cases z4 : t < n0
          · have y4 : ¬ Int32.ofNat n0 ≤ Int32.ofNat t := nle (by omega) (by omega) z4
            have e2 : due A0 m t = A 18 (2 * t) + A 18 (2 * t + 1) := by
              unfold due
              rw [if_pos (by omega), if_pos (by omega), ← f18 t (by omega)]
              rfl
            simp only [q, if_false, c_3 h, if_true, y1, not_true, c_4 h, y2, nbd, y3, y4, g_4 h hi.1.1 (show t < A 8 0 by omega), g_5 h hi.1.1 (show t < A 8 0 by omega), cl, hd t ht17, e2, nI_up, n_add]
            exact nxt
          · have y4 : Int32.ofNat n0 ≤ Int32.ofNat t := ile (by omega) (by omega) (by omega)
            have e2 : due A0 m t = 0 := by
              unfold due
              rw [if_pos (by omega), if_neg (by omega)]
            have e3 : Int32.ofNat 0 = 0 := rfl
            simp only [q, if_false, c_3 h, if_true, y1, not_true, c_4 h, y2, nbd, y3, y4, cl, hd t ht17, e2, e3, nI_up]
            exact nxt
      · have y2 : ¬ Int32.ofNat (A 1 2) = 0 := ine (b := 0) (by omega) (by omega) z2
        simp only [q, if_false, c_3 h, if_true, y1, not_true, c_4 h, y2, not_false_eq_true]
    · have y1 : ¬ Int32.ofNat (A 19 0) = 0 := ine (b := 0) (by omega) (by omega) z1
      simp only [q, if_false, c_3 h, if_true, y1, not_true, not_false_eq_true]
theorem play_st {X : nD → Prop} (hX : kept X) {n : Nat} (h1 : 1 ≤ n) (h2 : n ≤ 50) (h : rel A D) (hi : inv A) (hx : X A) (hb : bnd B A) (hB : B + 50 < 2 ^ 24) : ∃ A' D', fn_103 (Int32.ofNat n) D = some (Int32.ofNat (A' 26 2 - A 26 2), 0, D') ∧ A 26 2 ≤ A' 26 2 ∧ rel A' D' ∧ inv A' ∧ X A' ∧ bnd (B + 50) A' ∧ D' am_scr = D am_scr ∧ A' 1 0 = A 1 0 + n := by
  obtain ⟨b1, b2, b3, b4, b5⟩ := hb
  obtain ⟨A', D', d, r, ⟨p1, p2, p3, p4⟩, e1, e2, e3⟩ := m_play hX h1 h2 h ⟨hi, hx, b3, b4⟩ (by omega)
  refine ⟨A', D', ?_, e3, r, p1, p2, ⟨by omega, fun g hg => by rw [e2]; have := b2 g hg; omega, p3, p4, hB⟩, fr_of (ev_103 d), e1⟩
  rw [d, n_sub e3 (by omega)]
theorem empty_st {b : Nat} (hb5 : b < 5) (h : rel A D) (hi : inv A) (hb : bnd B A) : ∃ D', fn_90 (Int32.ofNat b) D = some (Int32.ofNat (A 5 b), 0, D') ∧ A 5 b ≤ 40 ∧ rel (A_empty A b) D' ∧ inv (A_empty A b) ∧ bnd B (A_empty A b) ∧ D' am_scr = D am_scr := by
  obtain ⟨D', d, r⟩ := m_empty h hb5
  refine ⟨D', d, ?_, r, i_empty hi hb5, n_empty hb, fr_of (ev_90 d)⟩
  have := hi.2.1.1
  have : b = 0 ∨ b = 1 ∨ b = 2 ∨ b = 3 ∨ b = 4 := by omega
  rcases this with rfl | rfl | rfl | rfl | rfl <;> omega
set_option maxHeartbeats 4000000 in
theorem lp_104_201 {m n0 Bf : Nat} {w : Int32} (h0 : inv A0) (hm0 : 0 < A0 8 0) (hn0 : A0 8 0 = n0) (hm1 : m ≤ 40) (hBf : Bf < 2 ^ 24) : ∀ (c k N B : Nat) (A : nD) (D : am_DD), k + c = 40 → c < N → rel A D → inv A → bnd B A → bnd B A0 → flow A0 m A → (∀ j, j < 17 → D am_scr j = Int32.ofNat (due A0 m j)) → B + 50 * c ≤ Bf → ∃ D2, fn_104_201 N (Int32.ofNat m) w (Int32.ofNat n0) (Int32.ofNat m) (Int32.ofNat k) D = some (1, D2) ∧ In Bf D2 := by
  intro c
  induction c with
  | zero =>
    intro k N B A D hk hN h hi hb hb0 hf hd hB
    obtain ⟨N, rfl⟩ := succ_of hN
    have q : (40 : Int32) ≤ Int32.ofNat k := ile (a := 40) (by omega) (by omega) (by omega)
    refine ⟨D, ?_, A, h, hi, bnd_mono (by omega) hBf hb⟩
    rw [fn_104_201, if_pos q]
    exact lp_104_276 h0 hb0 hm0 hn0 hm1 h hi hf hd 17 0 100000 (by omega) (by omega)
  | succ c ih =>
    intro k N B A D hk hN h hi hb hb0 hf hd hB
    obtain ⟨N, rfl⟩ := succ_of hN
    have q : ¬ (40 : Int32) ≤ Int32.ofNat k := nle (a := 40) (by omega) (by omega) (by omega)
    have hn' : A 19 0 ≤ 40 := by have := hi.2.1.1; omega
    have hw' := hi.2.2.2.2.2.2.2
    have fin := lp_104_276 h0 hb0 hm0 hn0 hm1 h hi hf hd 17 0 100000 (by omega) (by omega)
    have hl5 : lw (w >>> (Int32.ofNat k &&& 31)) 5 < 5 := lw_lt (by omega)
    have low5 : ∀ D, fn_70 (w >>> (Int32.ofNat k &&& 31)) 5 D = some (Int32.ofNat (lw (w >>> (Int32.ofNat k &&& 31)) 5), D) := fun D => low_n (K := 5) (by omega) (by omega)
    generalize lw (w >>> (Int32.ofNat k &&& 31)) 5 = x at hl5 low5
    have e5 : Int32.ofNat k - Int32.ofNat k / 5 * 5 = Int32.ofNat (k % 5) := n_mod (b := 5) (by omega) (by omega) (by omega)
    have e30 : Int32.ofNat k - Int32.ofNat k / 30 * 30 = Int32.ofNat (k % 30) := n_mod (b := 30) (by omega) (by omega) (by omega)
    have e20 : (20 : Int32) + Int32.ofNat (k % 30) = Int32.ofNat (20 + k % 30) := n_add 20 _
    obtain ⟨D1, d1, l1, r1, i1, b1, s1⟩ := empty_st hl5 h hi hb
    obtain ⟨D2, d2, l2, r2, i2, b2, s2⟩ := empty_st (b := k % 5) (by omega) r1 i1 b1
    obtain ⟨A3, D3, d3, l3, r3, i3, f3, b3, s3, -⟩ := play_st (flow_kept h0.1) (n := 20 + k % 30) (by omega) (by omega) r2 i2 (flow_empty (flow_empty hf)) b2 (by omega)
    obtain ⟨D4, d4, f4⟩ := ih (k + 1) N (B + 50) A3 D3 (by omega) (by omega) r3 i3 b3 (bnd_mono (by omega) (by omega) hb0) f3 (fun j hj => by rw [s3, s2, s1]; exact hd j hj) (by omega)
    have q1 : ¬ Int32.ofNat (A 5 x) < 0 := nI_pos (n := A 5 x) (by omega)
    have q2 : ¬ Int32.ofNat (A_empty A x 5 (k % 5)) < 0 := nI_pos (n := A_empty A x 5 (k % 5)) (by omega)
    have u3 := b3.1
    have v3 := b3.2.2.1
    have q3 : (0 : Int32) ≤ Int32.ofNat (A3 26 2 - A_empty (A_empty A x) (k % 5) 26 2) := ile (a := 0) (by omega) (by omega) (by omega)
    by_cases z1 : A 19 0 = 0
    · have y1 : ¬ (0 : Int32) < Int32.ofNat (A 19 0) := nlt (a := 0) (by omega) (by omega) (by omega)
      by_cases z2 : A 1 2 = 0
      · have y2 : Int32.ofNat (A 1 2) ≤ 0 := ile (b := 0) (by omega) (by omega) (by omega)
        refine ⟨D, ?_, A, h, hi, bnd_mono (by omega) hBf hb⟩
        rw [fn_104_201]
        simp only [q, if_false, c_3 h, if_true, y1, c_4 h, y2]
        exact fin
      · have y2 : ¬ Int32.ofNat (A 1 2) ≤ 0 := nle (b := 0) (by omega) (by omega) (by omega)
        refine ⟨D4, ?_, f4⟩
        rw [fn_104_201]
        simp only [q, if_false, c_3 h, if_true, y1, c_4 h, y2, low5, d1, q1, e5, d2, q2, e30, e20, d3, q3, nI_up]
        exact d4
    · have y1 : (0 : Int32) < Int32.ofNat (A 19 0) := ilt (a := 0) (by omega) (by omega) (by omega)
      refine ⟨D4, ?_, f4⟩
      rw [fn_104_201]
      simp only [q, if_false, c_3 h, if_true, y1, low5, d1, q1, e5, d2, q2, e30, e20, d3, q3, nI_up]
      exact d4
set_option maxHeartbeats 4000000 in
theorem lp_104_107 {m n0 : Nat} {w : Int32} {P : am_DD → Prop} (hi : inv A) (hb : bnd B A) (hm0 : 0 < A 8 0) (hn0 : A 8 0 = n0) (hm1 : m ≤ 40) (hE : ∀ N D1, rel A D1 → (∀ j, j < 17 → D1 am_scr j = Int32.ofNat (due A m j)) → ∃ D2, fn_104_107 (N + 1) (Int32.ofNat m) w (Int32.ofNat n0) 17 D1 = some (1, D2) ∧ P D2) : ∀ (c t N : Nat) (D : am_DD), t + c = 17 → c < N → rel A D → (∀ j, j < t → D am_scr j = Int32.ofNat (due A m j)) → ∃ D2, fn_104_107 N (Int32.ofNat m) w (Int32.ofNat n0) (Int32.ofNat t) D = some (1, D2) ∧ P D2 := by
  have hn := hi.1.1
  intro c
  induction c with
  | zero =>
    intro t N D ht hN h hd
    obtain ⟨N, rfl⟩ := succ_of hN
    obtain rfl : t = 17 := by omega
    exact hE N D h hd
  | succ c ih =>
    intro t N D ht hN h hd
    obtain ⟨N, rfl⟩ := succ_of hN
    have q : ¬ (17 : Int32) ≤ Int32.ofNat t := nle (a := 17) (by omega) (by omega) (by omega)
    have ht17 : t < 17 := by omega
    have cl : (Int32.ofNat t).toNatClampNeg = t := c_ofNat (by omega)
    have nbd : ¬ (Int32.ofNat t < 0 ∨ 17 ≤ t) := fun z => z.elim (fun y => nI_pos (n := t) (by omega) y) (fun y => by omega)
    have up : ∀ D1 v, rel A D1 → D1 am_scr = D am_scr → v = Int32.ofNat (due A m t) → ∃ D2, fn_104_107 N (Int32.ofNat m) w (Int32.ofNat n0) (Int32.ofNat (t + 1)) (am_upd D1 am_scr t v) = some (1, D2) ∧ P D2 := fun D1 v h1 hs hv => by
      refine ih (t + 1) N _ (by omega) (by omega) (h1.row fun a ha => u_row (by unfold am_scr; omega)) fun j hj => ?_
      by_cases z : j = t
      · subst z
        rw [u_self, hv]
      · rw [u_ne (fun y => z y.2), hs]
        exact hd j (by omega)
    by_cases z3 : 12 ≤ t
    · have y3 : (12 : Int32) ≤ Int32.ofNat t := ile (a := 12) (by omega) (by omega) z3
      have e1 : Int32.ofNat t - 12 = Int32.ofNat (t - 12) := n_sub (b := 12) (by omega) (by omega)
      have e8 : (8 : Int32) + Int32.ofNat t = Int32.ofNat (8 + t) := n_add 8 t
      obtain ⟨D1, d1, r1⟩ := r_1 (x := 8 + t) h hi.1 (show m ≤ 1000 by omega) (Or.inr ⟨by omega, by omega⟩)
      obtain ⟨D2, d2, p2⟩ := up D1 (Int32.ofNat (A 7 (t - 12) + ar A m (8 + t))) r1 (fr_of (ev_59 d1)) (by unfold due; rw [if_neg (by omega)])
      refine ⟨D2, ?_, p2⟩
      rw [fn_104_107]
      simp only [q, if_false, y3, if_true, e1, b_1 h (show t - 12 < 5 by omega), e8, d1, nbd, cl, n_add, nI_up]
      exact d2
    · have y3 : ¬ (12 : Int32) ≤ Int32.ofNat t := nle (a := 12) (by omega) (by omega) (by omega)
      by_cases z4 : t < n0
      · have y4 : ¬ Int32.ofNat n0 ≤ Int32.ofNat t := nle (by omega) (by omega) z4
        have z5 : t < A 8 0 := by omega
        obtain ⟨D1, d1, r1⟩ := r_0 (x := t) h hi.1 (show m ≤ 1000 by omega) (Or.inl z5)
        obtain ⟨D2, d2, p2⟩ := up D1 (Int32.ofNat (A 18 (2 * t) + A 18 (2 * t + 1) + ar A m t)) r1 (fr_of (ev_59 d1)) (by unfold due; rw [if_pos (by omega), if_pos (by omega)]; rfl)
        refine ⟨D2, ?_, p2⟩
        rw [fn_104_107]
        simp only [q, if_false, y3, y4, if_true, g_4 h hn z5, g_5 h hn z5, d1, nbd, cl, n_add, nI_up]
        exact d2
      · have y4 : Int32.ofNat n0 ≤ Int32.ofNat t := ile (by omega) (by omega) (by omega)
        obtain ⟨D2, d2, p2⟩ := up D 0 h rfl (by unfold due; rw [if_pos (by omega), if_neg (by omega)]; rfl)
        refine ⟨D2, ?_, p2⟩
        rw [fn_104_107]
        simp only [q, if_false, y3, y4, if_true, nbd, cl, nI_up]
        exact d2
/-! what is due, the drop, what came -/
theorem h_due {m n0 Bf : Nat} {w : Int32} (h : rel A D) (hi : inv A) (hb : bnd B A) (hm0 : 0 < A 8 0) (hn0 : A 8 0 = n0) (h19 : A 19 0 = 0) (h12 : A 1 2 = 0) (hm : 1 ≤ m) (hm1 : m ≤ 40) (hB : B + 2000 ≤ Bf) (hBf : Bf < 2 ^ 24) : ∃ D2, fn_104_107 am_F (Int32.ofNat m) w (Int32.ofNat n0) 0 D = some (1, D2) ∧ In Bf D2 := by
  refine lp_104_107 hi hb hm0 hn0 hm1 (fun N D1 h1 hd => ?_) 17 0 100000 D (by omega) (by omega) h (fun j hj => absurd hj (Nat.not_lt_zero _))
  obtain ⟨D2, d2, r2⟩ := (m_drop h1 hi.2.2.2 hm hm1).1 (by omega)
  have hs := fr_of (ev_93 d2)
  obtain ⟨D3, d3, p3⟩ := lp_104_201 (w := w) hi hm0 hn0 hm1 hBf 40 0 100000 B _ D2 (by omega) (by omega) r2 (i_drop hi (by omega)) (n_drop hb) hb (flow_start hi.1 h19 h12) (fun j hj => by rw [hs]; exact hd j hj) (by omega)
  have q : (17 : Int32) ≤ 17 := by decide
  have d3' : fn_104_201 100000 (Int32.ofNat m) w (Int32.ofNat n0) (Int32.ofNat m) 0 D2 = some (1, D3) := d3
  refine ⟨D3, ?_, p3⟩
  rw [h12, Nat.zero_add] at d2
  rw [fn_104_107, if_pos q, d2]
  dsimp only
  rw [if_pos rfl]
  unfold am_F
  exact d3'
/-! the balls before go out -/
theorem kept_n {n0 : Nat} : kept (fun V => V 8 0 = n0) :=
  ⟨fun V V' hb h => (congrFun (hb.2.2 8 (by decide)) 0).trans h, fun V V' w g t _ hp h => (congrFun hp.2.1.2.2.1 0).trans h,
   fun V V' _ hp h => by obtain ⟨-, -, ⟨-, -, -, h8, -⟩, -⟩ := hp; exact (congrFun h8 0).trans h,
   fun V V' b hl h => by obtain ⟨-, -, -, c3, c7, c8, -⟩ := hl; exact (congrFun c8 0).trans h,
   fun V V' hr _ _ h => (congrFun (hr 8 (by decide) (by decide) (by decide) (by decide)) 0).trans h⟩
theorem lp_104_b {m n0 : Nat} {w x5 : Int32} : ∀ (c b N : Nat) (A : nD) (D : am_DD), b + c = 5 → rel A D → inv A → bnd B A → A 8 0 = n0 → ∃ A' D', fn_104_m (N + c) 1 (Int32.ofNat m) w (Int32.ofNat n0) x5 (Int32.ofNat b) D = fn_104_m N 1 (Int32.ofNat m) w (Int32.ofNat n0) x5 5 D' ∧ rel A' D' ∧ inv A' ∧ bnd B A' ∧ A' 8 0 = n0 := by
  intro c
  induction c with
  | zero =>
    intro b N A D hb h hi hbb h8
    obtain rfl : b = 5 := by omega
    exact ⟨A, D, rfl, h, hi, hbb, h8⟩
  | succ c ih =>
    intro b N A D hb h hi hbb h8
    obtain ⟨D1, d1, l1, r1, i1, b1, -⟩ := empty_st (b := b) (by omega) h hi hbb
    obtain ⟨A', D', e, k1, k2, k3, k4⟩ := ih (b + 1) N (A_empty A b) D1 (by omega) r1 i1 b1 (by
      unfold A_empty
      rw [nu_row (by decide), nu_row (by decide)]
      exact h8)
    refine ⟨A', D', ?_, k1, k2, k3, k4⟩
    have q : ¬ (5 : Int32) ≤ Int32.ofNat b := nle (a := 5) (by omega) (by omega) (by omega)
    have q1 : (0 : Int32) ≤ Int32.ofNat (A 5 b) := ile (a := 0) (by omega) (by omega) (by omega)
    show fn_104_m (N + c + 1) (0 + 1) _ _ _ _ _ _ = _
    rw [fn_104_m]
    simp only [q, if_false, d1, if_true, q1, nI_up]
    exact e
set_option maxHeartbeats 4000000 in
theorem lp_104_m {m n0 Bf : Nat} {w : Int32} (hm : 1 ≤ m) (hm1 : m ≤ 40) (hBf : Bf < 2 ^ 24) : ∀ (c k N B : Nat) (A : nD) (D : am_DD), k + c = 40 → rel A D → inv A → bnd B A → A 8 0 = n0 → B + 50 * c + 2000 ≤ Bf → ∃ D2, fn_104_m (N + 7 * c + 1) 0 (Int32.ofNat m) w (Int32.ofNat n0) (Int32.ofNat k) 0 D = some (1, D2) ∧ In Bf D2 := by
  intro c
  induction c with
  | zero =>
    intro k N B A D hk h hi hb h8 hB
    have hn := hi.1.1
    have hn' : A 19 0 ≤ 40 := by have := hi.2.1.1; omega
    have hw' := hi.2.2.2.2.2.2.2
    have q : (40 : Int32) ≤ Int32.ofNat k := ile (a := 40) (by omega) (by omega) (by omega)
    have hIn : In Bf D := ⟨A, h, hi, bnd_mono (by omega) hBf hb⟩
    rw [fn_104_m]
    by_cases z0 : n0 = 0
    · have y0 : Int32.ofNat n0 = 0 := by rw [z0]; rfl
      exact ⟨D, by simp only [q, y0, if_true], hIn⟩
    · have y0 : ¬ Int32.ofNat n0 = 0 := ine (b := 0) (by omega) (by omega) z0
      by_cases z1 : A 19 0 = 0
      · have y1 : ¬ (0 : Int32) < Int32.ofNat (A 19 0) := nlt (a := 0) (by omega) (by omega) (by omega)
        by_cases z2 : A 1 2 = 0
        · have y2 : Int32.ofNat (A 1 2) ≤ 0 := ile (b := 0) (by omega) (by omega) (by omega)
          obtain ⟨D2, d2, p2⟩ := h_due (w := w) h hi hb (show 0 < A 8 0 by omega) h8 z1 z2 hm hm1 (by omega) hBf
          refine ⟨D2, ?_, p2⟩
          simp only [q, y0, if_true, if_false, c_3 h, y1, c_4 h, y2]
          exact d2
        · have y2 : ¬ Int32.ofNat (A 1 2) ≤ 0 := nle (b := 0) (by omega) (by omega) (by omega)
          exact ⟨D, by simp only [q, y0, if_true, if_false, c_3 h, y1, c_4 h, y2], hIn⟩
      · have y1 : (0 : Int32) < Int32.ofNat (A 19 0) := ilt (a := 0) (by omega) (by omega) (by omega)
        exact ⟨D, by simp only [q, y0, if_true, if_false, c_3 h, y1], hIn⟩
  | succ c ih =>
    intro k N B A D hk h hi hb h8 hB
    have hn := hi.1.1
    have hn' : A 19 0 ≤ 40 := by have := hi.2.1.1; omega
    have hw' := hi.2.2.2.2.2.2.2
    have q : ¬ (40 : Int32) ≤ Int32.ofNat k := nle (a := 40) (by omega) (by omega) (by omega)
    have hIn : In Bf D := ⟨A, h, hi, bnd_mono (by omega) hBf hb⟩
    obtain ⟨A1, D1, e1, r1, i1, b1, n1⟩ := lp_104_b (m := m) (w := w) (x5 := Int32.ofNat k) 5 0 (N + 7 * c + 2) A D (by omega) h hi hb h8
    obtain ⟨A2, D2, d2, l2, r2, i2, x2, b2, -, -⟩ := play_st kept_n (n := 50) (by omega) (by omega) r1 i1 n1 b1 (by omega)
    obtain ⟨D3, d3, p3⟩ := ih (k + 1) N (B + 50) A2 D2 (by omega) r2 i2 b2 x2 (by omega)
    have u3 := b2.1
    have v3 := b2.2.2.1
    have q3 : (0 : Int32) ≤ Int32.ofNat (A2 26 2 - A1 26 2) := ile (a := 0) (by omega) (by omega) (by omega)
    have q5 : (5 : Int32) ≤ 5 := by decide
    have d2' : fn_103 50 D1 = some (Int32.ofNat (A2 26 2 - A1 26 2), 0, D2) := d2
    have go : fn_104_m (N + 7 * c + 7) 1 (Int32.ofNat m) w (Int32.ofNat n0) (Int32.ofNat k) 0 D = some (1, D3) := by
      have e2 : fn_104_m (N + 7 * c + 7) 1 (Int32.ofNat m) w (Int32.ofNat n0) (Int32.ofNat k) 0 D = fn_104_m (N + 7 * c + 1 + 1) (0 + 1) (Int32.ofNat m) w (Int32.ofNat n0) (Int32.ofNat k) 5 D1 := e1
      rw [e2, fn_104_m]
      simp only [q5, if_true, d2', q3, nI_up]
      exact d3
    rw [show N + 7 * (c + 1) + 1 = N + 7 * c + 7 + 1 by omega, fn_104_m]
    by_cases z1 : A 19 0 = 0
    · have y1 : ¬ (0 : Int32) < Int32.ofNat (A 19 0) := nlt (a := 0) (by omega) (by omega) (by omega)
      by_cases z2 : A 1 2 = 0
      · have y2 : Int32.ofNat (A 1 2) ≤ 0 := ile (b := 0) (by omega) (by omega) (by omega)
        by_cases z0 : n0 = 0
        · have y0 : Int32.ofNat n0 = 0 := by rw [z0]; rfl
          exact ⟨D, by simp only [q, if_false, c_3 h, y1, c_4 h, y2, y0, if_true], hIn⟩
        · have y0 : ¬ Int32.ofNat n0 = 0 := ine (b := 0) (by omega) (by omega) z0
          obtain ⟨D2, d2, p2⟩ := h_due (w := w) h hi hb (show 0 < A 8 0 by omega) h8 z1 z2 hm hm1 (by omega) hBf
          refine ⟨D2, ?_, p2⟩
          simp only [q, y0, if_true, if_false, c_3 h, y1, c_4 h, y2]
          exact d2
      · have y2 : ¬ Int32.ofNat (A 1 2) ≤ 0 := nle (b := 0) (by omega) (by omega) (by omega)
        refine ⟨D3, ?_, p3⟩
        simp only [q, if_true, if_false, c_3 h, y1, c_4 h, y2]
        exact go
    · have y1 : (0 : Int32) < Int32.ofNat (A 19 0) := ilt (a := 0) (by omega) (by omega) (by omega)
      refine ⟨D3, ?_, p3⟩
      simp only [q, if_true, if_false, c_3 h, y1]
      exact go
/-! letsOut -/
theorem h_lets {m Bf : Nat} {w : Int32} (hm : 1 ≤ m) (hm1 : m ≤ 40) (hB : B + 4000 ≤ Bf) (hBf : Bf < 2 ^ 24) (h : In B D) : ∃ D2, fn_104 (Int32.ofNat m) w D = some (1, D2) ∧ In Bf D2 := by
  obtain ⟨A, r, hi, hb⟩ := h
  obtain ⟨D2, d2, p2⟩ := lp_104_m (w := w) hm hm1 hBf 40 0 99719 B A D (by omega) r hi hb rfl (by omega)
  have d2' : fn_104_m am_F 0 (Int32.ofNat m) w (Int32.ofNat (A 8 0)) 0 0 D = some (1, D2) := d2
  refine ⟨D2, ?_, p2⟩
  unfold fn_104
  rw [c_1 r]
  dsimp only
  rw [if_pos rfl]
  exact d2'
end LETS
