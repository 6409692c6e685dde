/-! one ball of a beat, in both -/
theorem vE_18 {D : am_DD} {w r n j : Nat} : vE D w r n 18 j = if j = 0 then Int32.ofNat (n - (r - w)) else D 19 j := by
  unfold vE
  rw [if_neg (by omega)]
  by_cases z : j = 0
  · rw [if_pos ⟨rfl, z⟩, if_pos z]
  · rw [if_neg (fun q => z q.2), if_neg z]
theorem vE_move {D : am_DD} {w r n : Nat} {t x : Int32} (hw : w ≤ r) (hn : r < n) : ∀ o j, vE (am_upd (am_upd (am_upd D 21 w t) 23 w (D 23 r)) 25 w x) (w + 1) (r + 1) n o j = am_upd (am_upd (vE D w r n) 20 w t) 24 w x o j := by
  intro o j
  by_cases h18 : o = 18
  · subst h18
    rw [u_ne (by omega), u_ne (by omega)]
    rw [vE_18, vE_18, show r + 1 - (w + 1) = r - w by omega, u_ne (by omega), u_ne (by omega), u_ne (by omega)]
  · by_cases hb : o = 20 ∨ o = 22 ∨ o = 24
    · by_cases hj : w + 1 ≤ j
      · rw [vE_hi hb hj, u_ne (by omega), u_ne (by omega), u_ne (by omega), u_ne (by omega), u_ne (by omega), vE_hi hb (by omega), show r + 1 - (w + 1) = r - w by omega]
      · rw [vE_lo (by omega) h18]
        by_cases hjw : j = w
        · subst hjw
          rcases hb with rfl | rfl | rfl
          · rw [u_ne (by omega), u_ne (by omega), u_self, u_ne (by omega), u_self]
          · rw [u_ne (by omega), u_self, u_ne (by omega), u_ne (by omega), vE_hi (by omega) (by omega), show j + (r - j) = r by omega]
          · rw [u_self, u_self]
        · rw [u_ne (by omega), u_ne (by omega), u_ne (by omega), u_ne (by omega), u_ne (by omega), vE_lo (by omega) h18]
    · rw [vE_ne hb h18, u_ne (by omega), u_ne (by omega), u_ne (by omega), u_ne (by omega), u_ne (by omega), vE_ne hb h18]
/-- the class: a ball passes its gate -/
theorem fn_74_n {D : am_DD} {g e : Nat} {t : Int32} (hg : g < 12) (he : e < 2) (h1 : D 10 g = Int32.ofNat e) (h2 : D 16 (2 * g + e) = t) : fn_74 (Int32.ofNat g) D = some (t, am_upd (am_upd D 18 (2 * g + e) (D 18 (2 * g + e) + 1)) 10 g (1 - Int32.ofNat e)) := by
  unfold fn_74 fn_73
  rw [rw_at_nI hg (by decide), h1, gx2, rw_raise_nI (by omega) (by decide), rw_put_nI hg (by decide), rw_at_nI (by omega) (by decide), u_row (by omega), u_row (by omega), h2]
theorem fn_75_n {D : am_DD} {r w : Nat} {t : Int32} (hw : w ≤ r) (hr : r < 40) : fn_75 (Int32.ofNat r) (Int32.ofNat w) t D = some (0, am_upd (am_upd (am_upd D 21 w t) 23 w (D 23 r)) 25 w (D 25 r + 1)) := by
  unfold fn_75
  rw [rw_put_nI (by omega) (by decide), rw_put_nI (by omega) (by decide), rw_at_nI hr (by decide), rw_put_nI (by omega) (by decide), rw_at_nI hr (by decide), u_row (by omega), u_row (by omega), u_row (by omega)]
/-- the reference: the balls behind close up -/
theorem fn_85_lp (D0 : am_DD) {w n : Nat} (hn : n ≤ 40) (hw : w < n) (h3 : D0 322 3 = Int32.ofNat (n - 1)) : ∀ (c x N : Nat) (D : am_DD), x + c = 105 + 3 * (n - 1) → c < N → 105 + 3 * w ≤ x → (∀ j, D 322 j = if 105 + 3 * w ≤ j ∧ j < x then D0 322 (j + 3) else D0 322 j) → (∀ a, a ≠ 322 → D a = D0 a) → ∃ D', fn_85_17 N (Int32.ofNat x) D = some (0, D') ∧ (∀ j, D' 322 j = if 105 + 3 * w ≤ j ∧ j < 105 + 3 * (n - 1) then D0 322 (j + 3) else D0 322 j) ∧ ∀ a, a ≠ 322 → D' a = D0 a := by
  intro c
  induction c with
  | zero =>
    intro x N D hx hN hxw hD hA
    obtain ⟨N, rfl⟩ : ∃ n', N = n' + 1 := ⟨N - 1, by omega⟩
    have e3 : D 322 3 = Int32.ofNat (n - 1) := by rw [hD, if_neg (by omega), h3]
    have em : (105 : Int32) + 3 * Int32.ofNat (n - 1) = Int32.ofNat (105 + 3 * (n - 1)) := by
      have h1 : (3 : Int32) * Int32.ofNat (n - 1) = Int32.ofNat (3 * (n - 1)) := n_mul 3 (n - 1)
      have h2 : (105 : Int32) + Int32.ofNat (3 * (n - 1)) = Int32.ofNat (105 + 3 * (n - 1)) := n_add 105 _
      rw [h1, h2]
    have hx' : x = 105 + 3 * (n - 1) := by omega
    refine ⟨D, ?_, fun j => by rw [hD, hx'], hA⟩
    rw [fn_85_17, e3, em, if_pos (n_ile (by omega) (by omega) (by omega))]
  | succ c ih =>
    intro x N D hx hN hxw hD hA
    obtain ⟨N, rfl⟩ : ∃ n', N = n' + 1 := ⟨N - 1, by omega⟩
    have e3 : D 322 3 = Int32.ofNat (n - 1) := by rw [hD, if_neg (by omega), h3]
    have em : (105 : Int32) + 3 * Int32.ofNat (n - 1) = Int32.ofNat (105 + 3 * (n - 1)) := by
      have h1 : (3 : Int32) * Int32.ofNat (n - 1) = Int32.ofNat (3 * (n - 1)) := n_mul 3 (n - 1)
      have h2 : (105 : Int32) + Int32.ofNat (3 * (n - 1)) = Int32.ofNat (105 + 3 * (n - 1)) := n_add 105 _
      rw [h1, h2]
    have e4 : Int32.ofNat x + 3 = Int32.ofNat (x + 3) := n_add x 3
    obtain ⟨D', i1, i2, i3⟩ := ih (x + 1) N (am_upd D 322 x (D 322 (x + 3))) (by omega) (by omega) (by omega) (fun j => by
      by_cases z : j = x
      · rw [z, u_self, hD, if_neg (by omega), if_pos (by omega)]
      · rw [u_ne (fun q => z q.2), hD]
        by_cases z2 : 105 + 3 * w ≤ j ∧ j < x
        · rw [if_pos z2, if_pos (by omega)]
        · rw [if_neg z2, if_neg (by omega)]) (fun a ha => by rw [u_row ha, hA a ha])
    refine ⟨D', ?_, i2, i3⟩
    rw [fn_85_17, e3, em, if_neg (n_nle (by omega) (by omega) (by omega)), e4, if_neg (n_bad (by decide) (by omega)), if_neg (n_bad (by decide) (by omega)), c_ofNat (by omega), c_ofNat (by omega), nI_up]
    exact i1
theorem rx0 {r : Nat} : ((105 : Int32) + (3 * Int32.ofNat r)) + 0 = Int32.ofNat (105 + 3 * r + 0) := rx (w := 0)
theorem rx2 {r : Nat} : ((105 : Int32) + (3 * Int32.ofNat r)) + 2 = Int32.ofNat (105 + 3 * r + 2) := rx (w := 2)
/-- the reference: a ball passes its gate -/
theorem fn_84_n {D D6 : am_DD} {w g e : Nat} {t : Int32} (hw : w < 40) (hg : g < 12) (he : e < 2) (h1 : D 322 (105 + 3 * w) = Int32.ofNat g) (h2 : D 322 (11 + 7 * g) = Int32.ofNat e) (h3 : fn_83 (Int32.ofNat g) D = some (0, D6)) (h4 : D6 322 (11 + 7 * g + (2 + e)) = t) :
    fn_84 (Int32.ofNat w) D = some (t, am_upd (am_upd (am_upd (am_upd D6 322 (11 + 7 * g + (4 + e)) (D6 322 (11 + 7 * g + (4 + e)) + 1)) 322 (11 + 7 * g + 0) (1 - Int32.ofNat e)) 322 (105 + 3 * w + 0) t) 322 (105 + 3 * w + 2) (D6 322 (105 + 3 * w + 2) + 1)) := by
  have f0 : ∀ D : am_DD, fn_48 (Int32.ofNat g) 0 D = _ := fun D => fn_48_n (g := g) (w := 0) (D := D) (by omega)
  have f32 : ∀ (v : Int32) (D : am_DD), fn_32 (Int32.ofNat g) 0 v D = _ := fun v D => fn_32_n (g := g) (w := 0) (v := v) (D := D) (by omega)
  have e4 : (4 : Int32) + Int32.ofNat e = Int32.ofNat (4 + e) := n_add 4 e
  have e2 : (2 : Int32) + Int32.ofNat e = Int32.ofNat (2 + e) := n_add 2 e
  have nb0 : ¬ (Int32.ofNat (105 + 3 * w + 0) < 0 ∨ 405 ≤ (Int32.ofNat (105 + 3 * w + 0)).toNatClampNeg) := n_bad (by decide) (by omega)
  have nb2 : ¬ (Int32.ofNat (105 + 3 * w + 2) < 0 ∨ 405 ≤ (Int32.ofNat (105 + 3 * w + 2)).toNatClampNeg) := n_bad (by decide) (by omega)
  unfold fn_84
  rw [rx0, rx2]
  simp only [if_neg nb0, if_neg nb2]
  rw [c_ofNat (by omega), c_ofNat (by omega), Nat.add_zero, h1, f0]
  dsimp only
  rw [Nat.add_zero, h2, h3]
  dsimp only
  rw [e4, fn_48_n (by omega)]
  dsimp only
  rw [fn_32_n (by omega)]
  dsimp only
  rw [f32]
  dsimp only
  rw [e2, fn_48_n (by omega)]
  dsimp only
  rw [u_ne (by omega), u_self, u_ne (by omega), u_ne (by omega), h4, u_ne (by omega), u_ne (by omega), u_ne (by omega), Nat.add_zero]
set_option maxHeartbeats 4000000 in
theorem ball_step {B w r n : Nat} {D D' : am_DD} (hw : w ≤ r) (hr : r < n) (hn : n ≤ 40) (h : st_ok B (D' 322) (vE D w r n)) :
    ∃ w' D1 D1', w' ≤ r + 1 ∧ (∀ N, fn_76_12 (N + 1) (Int32.ofNat n) (Int32.ofNat w) (Int32.ofNat r) D = fn_76_12 N (Int32.ofNat n) (Int32.ofNat w') (Int32.ofNat (r + 1)) D1) ∧ (∀ N, fn_88_12 (N + 1) (Int32.ofNat w) D' = fn_88_12 N (Int32.ofNat w') D1') ∧ st_ok B (D1' 322) (vE D1 w' (r + 1) n) ∧ (∀ a, 33 ≤ a → D1 a = D a) ∧ ∀ a, a ≠ 322 → D1' a = D' a := by
  obtain ⟨m, n2, st, kp, o, hb, nb, rel, e25, o60, gs, bl, rs⟩ := id h
  obtain ⟨r1, r2, r3, r4, r5⟩ := rel
  have hm2 := gs.2.1
  have hk60 : kp ≤ 60 := rs.2.2.2.2.2.1
  have s3 : D' 322 3 = Int32.ofNat (n - (r - w)) := (r1 3 (by omega)).trans vE_n
  have hn2 : n2 = n - (r - w) := n_inj (by have := st_n40 bl; omega) (by omega) (bl.1.symm.trans s3)
  have hw2 : w < n2 := by omega
  obtain ⟨g, hg, gpl⟩ := bl.2.2.2.2 w hw2
  have gs3 := gs.2.2.1 g (by omega)
  obtain ⟨e, he, es⟩ : ∃ e, e < 2 ∧ D' 322 (11 + 7 * g) = Int32.ofNat e := by
    rcases gs3 with z | z
    · exact ⟨0, by omega, z⟩
    · exact ⟨1, by omega, z⟩
  obtain ⟨t, ts, tb⟩ := gs.2.2.2.2.1 g e hg he
  have ts' : D' 322 (11 + 7 * g + (2 + e)) = Int32.ofNat t := by rw [← ts, show 11 + 7 * g + (2 + e) = 13 + 7 * g + e by omega]
  -- the class's cells
  have k21 : D 21 r = Int32.ofNat g := by
    have := r4 w 0 hw2 (by omega)
    rw [vE_hi (by omega) (by omega), show w + (r - w) = r by omega] at this
    rw [← gpl]
    exact this.symm
  have k12 : D 12 g = D' 322 (12 + 7 * g) := by
    have : D' 322 (11 + 7 * g + 1) = vE D w r n 11 g := r2 g 1 (by omega) (by omega)
    rw [vE_ne (by omega) (by omega)] at this
    rw [show 12 + 7 * g = 11 + 7 * g + 1 by omega, this]
  have k1 : D 1 0 = D' 322 0 := by
    have : D' 322 0 = vE D w r n 0 0 := r1 0 (by omega)
    rw [vE_ne (by omega) (by omega)] at this
    exact this.symm
  have k261 : D 26 1 = Int32.ofNat kp := by
    have : D' 322 10 = vE D w r n 25 1 := r1 10 (by omega)
    rw [vE_ne (by omega) (by omega)] at this
    exact this.symm.trans rs.2.2.2.2.1
  have k260 : D 26 0 = Int32.ofNat o := by
    rw [vE_ne (by omega) (by omega)] at e25
    exact e25
  have k10 : D 10 g = Int32.ofNat e := by
    have : D' 322 (11 + 7 * g + 0) = vE D w r n 9 g := r2 g 0 (by omega) (by omega)
    rw [vE_ne (by omega) (by omega), Nat.add_zero] at this
    exact this.symm.trans es
  have k16 : D 16 (2 * g + e) = Int32.ofNat t := by
    have := r2 g (2 + e) (by omega) (by omega)
    have j2 := gj_2 (g := g) he
    rw [j2.1, j2.2, vE_ne (by omega) (by omega)] at this
    exact this.symm.trans ts'
  have k18 : D 18 (2 * g + e) = D' 322 (11 + 7 * g + (4 + e)) := by
    have := r2 g (4 + e) (by omega) (by omega)
    have j4 := gj_4 (g := g) he
    rw [j4.1, j4.2, vE_ne (by omega) (by omega)] at this
    exact this.symm
  obtain ⟨nk, off, hcase⟩ : ∃ nk off, (kp < 60 ∧ nk = kp + 1 ∧ off = 0) ∨ (kp = 60 ∧ nk = 60 ∧ off = 1) := by
    by_cases z : kp < 60
    · exact ⟨kp + 1, 0, Or.inl ⟨z, rfl, rfl⟩⟩
    · exact ⟨60, 1, Or.inr ⟨by omega, rfl, rfl⟩⟩
  obtain ⟨D3, c1, c2, c3, c4, c5, c6, c7, c8, c9⟩ := fn_72_n (b := D 1 0) (g := Int32.ofNat g) (p := D 12 g) k261 k260 o60 hcase
  obtain ⟨D6, q1, q2, q3, q4, q5, q6, q7, q8, q9⟩ := fn_83_n (D := D') (g := g) (by omega) rs.2.2.2.2.1 hcase
  have hP : (o + kp) % 60 < 60 := Nat.mod_lt _ (by decide)
  have A1 : st_ok B (D6 322) (vE D3 w r n) := by
    refine st_note (g := g) gs.1 hm2 hg rs.2.2.2.2.1 hk60 e25 o60 hcase q3 q4 q5 q6 q7 q8 q9 (fun o' j ho => ?_) ?_ ?_ ?_ (fun w' j hw' hj => ?_) ?_ ?_ ?_ h
    · unfold vE
      rw [c2 (1 + o') (by omega) (by omega) (by omega) (by omega)]
    · rw [vE_ne (by omega) (by omega)]; exact c3
    · rw [vE_ne (by omega) (by omega)]; exact c4
    · rw [vE_ne (by omega) (by omega), vE_ne (by omega) (by omega)]; exact c5
    · rw [vE_ne (by omega) (by omega), vE_ne (by omega) (by omega), show 1 + (27 + 2 * w') = 28 + 2 * w' by omega]; exact c6 w' j hw' hj
    · rw [vE_ne (by omega) (by omega)]; exact c7.trans k1
    · rw [vE_ne (by omega) (by omega)]; exact c8
    · rw [vE_ne (by omega) (by omega)]; exact c9.trans k12
  have m6 : D6 322 1 = Int32.ofNat m := by rw [q3 1 (by omega) (by omega) (by omega)]; exact gs.1
  have j4 := gj_4 (g := g) he
  have A2 := st_gset (m' := m) (g := g) (w := 4 + e) (v := D6 322 (11 + 7 * g + (4 + e)) + 1) m6 hm2 hg (by omega) (fun z => by omega) (fun z => by omega) (fun z => by omega) A1
  have A3 := st_gset (m' := m) (g := g) (w := 0) (v := 1 - Int32.ofNat e) (by rw [up_ne (by omega)]; exact m6) hm2 hg (by omega) (fun _ => one_sub (by
    obtain rfl | rfl : e = 0 ∨ e = 1 := by omega
    · exact Or.inl rfl
    · exact Or.inr rfl)) (fun z => by omega) (fun z => by omega) A2
  rw [j4.1, j4.2] at A3
  have k18' : D3 18 (2 * g + e) = D6 322 (11 + 7 * g + (4 + e)) := by rw [c2 18 (by omega) (by omega) (by omega) (by omega), k18, q3 _ (by omega) (by omega) (by omega)]
  have E3 : vE (am_upd (am_upd D3 18 (2 * g + e) (D3 18 (2 * g + e) + 1)) 10 g (1 - Int32.ofNat e)) w r n = am_upd (am_upd (vE D3 w r n) 17 (2 * g + e) (D6 322 (11 + 7 * g + (4 + e)) + 1)) (go 0) (gj 0 g) (1 - Int32.ofNat e) := by
    rw [vE_up (r' := 10) (ro := 9) rfl (by omega), vE_up (r' := 18) (ro := 17) rfl (by omega), k18']
    rfl
  have fC := fn_74_n (D := D3) (g := g) (e := e) (t := Int32.ofNat t) (by omega) he (by rw [c2 10 (by omega) (by omega) (by omega) (by omega)]; exact k10) (by rw [c2 16 (by omega) (by omega) (by omega) (by omega)]; exact k16)
  have fM := fn_84_n (D := D') (w := w) (g := g) (e := e) (t := Int32.ofNat t) (by omega) (by omega) he gpl es q1 (by rw [q3 _ (by omega) (by omega) (by omega)]; exact ts')
  rw [← E3] at A3
  have S9 : up (up (D6 322) (11 + 7 * g + (4 + e)) (D6 322 (11 + 7 * g + (4 + e)) + 1)) (11 + 7 * g + 0) (1 - Int32.ofNat e) = am_upd (am_upd D6 322 (11 + 7 * g + (4 + e)) (D6 322 (11 + 7 * g + (4 + e)) + 1)) 322 (11 + 7 * g + 0) (1 - Int32.ofNat e) 322 := by rw [up_row, up_row]
  rw [S9] at A3
  have D4k : ∀ a, 33 ≤ a → am_upd (am_upd D3 18 (2 * g + e) (D3 18 (2 * g + e) + 1)) 10 g (1 - Int32.ofNat e) a = D a := fun a ha => by rw [u_row (by omega), u_row (by omega), c2 a (by omega) (by omega) (by omega) (by omega)]
  have D9k : ∀ a, a ≠ 322 → am_upd (am_upd D6 322 (11 + 7 * g + (4 + e)) (D6 322 (11 + 7 * g + (4 + e)) + 1)) 322 (11 + 7 * g + 0) (1 - Int32.ofNat e) a = D' a := fun a ha => by rw [u_row ha, u_row ha, q2 a ha]
  have y105 : D6 322 (105 + 3 * w + 2) = am_upd (am_upd D6 322 (11 + 7 * g + (4 + e)) (D6 322 (11 + 7 * g + (4 + e)) + 1)) 322 (11 + 7 * g + 0) (1 - Int32.ofNat e) 322 (105 + 3 * w + 2) := by rw [u_ne (by omega), u_ne (by omega)]
  rw [y105] at fM
  have m9 : am_upd (am_upd D6 322 (11 + 7 * g + (4 + e)) (D6 322 (11 + 7 * g + (4 + e)) + 1)) 322 (11 + 7 * g + 0) (1 - Int32.ofNat e) 322 1 = Int32.ofNat m := by rw [u_ne (by omega), u_ne (by omega)]; exact m6
  have n9 : am_upd (am_upd D6 322 (11 + 7 * g + (4 + e)) (D6 322 (11 + 7 * g + (4 + e)) + 1)) 322 (11 + 7 * g + 0) (1 - Int32.ofNat e) 322 3 = Int32.ofNat n2 := by rw [u_ne (by omega), u_ne (by omega), q3 _ (by omega) (by omega) (by omega)]; exact bl.1
  generalize hD4 : am_upd (am_upd D3 18 (2 * g + e) (D3 18 (2 * g + e) + 1)) 10 g (1 - Int32.ofNat e) = D4 at fC A3 D4k
  generalize hD9 : am_upd (am_upd D6 322 (11 + 7 * g + (4 + e)) (D6 322 (11 + 7 * g + (4 + e)) + 1)) 322 (11 + 7 * g + 0) (1 - Int32.ofNat e) = D9 at fM A3 D9k m9 n9
  have runC : ∀ N, fn_76_12 (N + 1) (Int32.ofNat n) (Int32.ofNat w) (Int32.ofNat r) D = (if (20 : Int32) ≤ Int32.ofNat t then fn_76_12 N (Int32.ofNat n) (Int32.ofNat w) (Int32.ofNat r + 1) (rw_raise (rw_raise D4 5 5 (Int32.ofNat t - 20) 1) 7 5 (Int32.ofNat t - 20) 1) else (match fn_75 (Int32.ofNat r) (Int32.ofNat w) (Int32.ofNat t) D4 with | none => none | some (_, D10) => fn_76_12 N (Int32.ofNat n) (Int32.ofNat w + 1) (Int32.ofNat r + 1) D10)) := fun N => by
    rw [fn_76_12, if_neg (n_nle (by omega) (by omega) hr), rw_at_nI (by omega) (by decide), k21, rw_at_nI (by omega) (by decide), c1]
    dsimp only
    rw [fC]
    rfl
  have r4' := fun c hc => r4 w c hw2 hc
  by_cases ht : t < m
  · have n20 : ¬ (20 : Int32) ≤ Int32.ofNat t := n_nle (a := 20) (by omega) (by omega) (by omega)
    have l20 : Int32.ofNat t < 20 := (n_lt (b := 20) (by omega) (by omega)).mpr (by omega)
    have A4 := st_move (w := w) (t := t) m9 hm2 n9 (by omega) hw2 ht A3
    have x24 : D4 25 r + 1 = D9 322 (105 + 3 * w + 2) + 1 := by
      obtain ⟨m', n', st', kp', o', hb', nb', rel', -, -, -, bl', -⟩ := A3
      have hnn : n2 = n' := n_inj (by omega) (by have := st_n40 bl'; omega) (n9.symm.trans bl'.1)
      have := rel'.2.2.2.1 w 2 (by omega) (by omega)
      rw [vE_hi (by omega) (by omega), show w + (r - w) = r by omega] at this
      rw [this]
    refine ⟨w + 1, am_upd (am_upd (am_upd D4 21 w (Int32.ofNat t)) 23 w (D4 23 r)) 25 w (D4 25 r + 1), am_upd (am_upd D9 322 (105 + 3 * w + 0) (Int32.ofNat t)) 322 (105 + 3 * w + 2) (D9 322 (105 + 3 * w + 2) + 1), by omega, fun N => ?_, fun N => ?_, ?_, fun a ha => ?_, fun a ha => ?_⟩
    · rw [runC, if_neg n20, fn_75_n hw (by omega)]
      dsimp only
      rw [nI_up, nI_up]
    · rw [fn_88_12, bl.1, if_neg (n_nle (by omega) (by omega) hw2), fM]
      dsimp only
      rw [if_pos l20, nI_up]
    · rw [up_row, up_row]
      refine st_congr (fun j _ => rfl) (fun o' j _ => ?_) A4
      rw [vE_move hw hr, x24]
    · rw [u_row (by omega), u_row (by omega), u_row (by omega), D4k a ha]
    · rw [u_row ha, u_row ha, D9k a ha]
  · have hb20 : 20 ≤ t ∧ t < 25 := by omega
    obtain ⟨b, rfl⟩ : ∃ b, t = 20 + b := ⟨t - 20, by omega⟩
    have p20 : (20 : Int32) ≤ Int32.ofNat (20 + b) := n_ile (a := 20) (by omega) (by omega) (by omega)
    have l20 : ¬ Int32.ofNat (20 + b) < 20 := fun z => by have := (n_lt (b := 20) (by omega) (by omega)).mp z; omega
    have eb : Int32.ofNat (20 + b) - 20 = Int32.ofNat b := by
      have : Int32.ofNat (20 + b) - 20 = Int32.ofNat (20 + b - 20) := n_sub (b := 20) (by omega) (by omega)
      rw [this, show 20 + b - 20 = b by omega]
    have e95 : (95 : Int32) + Int32.ofNat (20 + b) - 20 = Int32.ofNat (95 + b) := by
      have h1 : (95 : Int32) + Int32.ofNat (20 + b) = Int32.ofNat (95 + (20 + b)) := n_add 95 _
      have : Int32.ofNat (95 + (20 + b)) - 20 = Int32.ofNat (95 + (20 + b) - 20) := n_sub (b := 20) (by omega) (by omega)
      rw [h1, this, show 95 + (20 + b) - 20 = 95 + b by omega]
    have e100 : (100 : Int32) + Int32.ofNat (20 + b) - 20 = Int32.ofNat (100 + b) := by
      have h1 : (100 : Int32) + Int32.ofNat (20 + b) = Int32.ofNat (100 + (20 + b)) := n_add 100 _
      have : Int32.ofNat (100 + (20 + b)) - 20 = Int32.ofNat (100 + (20 + b) - 20) := n_sub (b := 20) (by omega) (by omega)
      rw [h1, this, show 100 + (20 + b) - 20 = 100 + b by omega]
    have ew : (105 : Int32) + 3 * Int32.ofNat w = Int32.ofNat (105 + 3 * w) := by
      have h1 : (3 : Int32) * Int32.ofNat w = Int32.ofNat (3 * w) := n_mul 3 w
      have h2 : (105 : Int32) + Int32.ofNat (3 * w) = Int32.ofNat (105 + 3 * w) := n_add 105 _
      rw [h1, h2]
    have en : Int32.ofNat n2 - 1 = Int32.ofNat (n2 - 1) := n_sub (b := 1) (by omega) (by omega)
    generalize hDx : am_upd (am_upd D9 322 (105 + 3 * w + 0) (Int32.ofNat (20 + b))) 322 (105 + 3 * w + 2) (D9 322 (105 + 3 * w + 2) + 1) = Dx at fM
    have xD : ∀ j, j ≠ 105 + 3 * w + 0 → j ≠ 105 + 3 * w + 2 → Dx 322 j = D9 322 j := fun j z1 z2 => by rw [← hDx, u_ne (by omega), u_ne (by omega)]
    have xA : ∀ a, a ≠ 322 → Dx a = D' a := fun a ha => by rw [← hDx, u_row ha, u_row ha, D9k a ha]
    have lp := fn_85_lp (am_upd (am_upd (am_upd Dx 322 (95 + b) (Dx 322 (95 + b) + 1)) 322 (100 + b) (Dx 322 (100 + b) + 1)) 322 3 (Int32.ofNat (n2 - 1))) (w := w) (n := n2) (by omega) hw2 (u_self _ _ _ _) (3 * (n2 - 1) - 3 * w) (105 + 3 * w) 100000 _ (by omega) (by omega) (by omega) (fun j => by rw [if_neg (by omega)]) (fun _ _ => rfl)
    obtain ⟨Dz, i1, i2, i3⟩ := lp
    have zj : ∀ j, j ≠ 3 → j ≠ 95 + b → j ≠ 100 + b → am_upd (am_upd (am_upd Dx 322 (95 + b) (Dx 322 (95 + b) + 1)) 322 (100 + b) (Dx 322 (100 + b) + 1)) 322 3 (Int32.ofNat (n2 - 1)) 322 j = Dx 322 j := fun j z1 z2 z3 => by rw [u_ne (by omega), u_ne (by omega), u_ne (by omega)]
    refine ⟨w, am_upd (am_upd D4 5 b (D4 5 b + 1)) 7 b (D4 7 b + 1), Dz, by omega, fun N => ?_, fun N => ?_, ?_, fun a ha => ?_, fun a ha => ?_⟩
    · rw [runC, if_pos p20, eb, rw_raise_nI (by omega) (by decide), rw_raise_nI (by omega) (by decide), nI_up, u_row (show 7 ≠ 5 by omega)]
    · rw [fn_88_12, bl.1, if_neg (n_nle (by omega) (by omega) hw2), fM]
      dsimp only
      rw [if_neg l20, e95, e100, if_neg (n_bad (by decide) (by omega)), if_neg (n_bad (by decide) (by omega)), if_neg (n_bad (by decide) (by omega)), if_neg (n_bad (by decide) (by omega)), c_ofNat (by omega), c_ofNat (by omega)]
      unfold fn_85 am_F
      have x3 : am_upd (am_upd Dx 322 (95 + b) (Dx 322 (95 + b) + 1)) 322 (100 + b) (am_upd Dx 322 (95 + b) (Dx 322 (95 + b) + 1) 322 (100 + b) + 1) 322 3 = Int32.ofNat n2 := by
        rw [u_ne (by omega), u_ne (by omega), xD 3 (by omega) (by omega), n9]
      rw [x3, en, ew, u_ne (show ¬ (322 = 322 ∧ 100 + b = 95 + b) by omega), i1]
    · refine st_fall (w := w) (b := b) n9 (by omega) hw2 (by omega) (fun j z1 z2 z3 z4 => ?_) ?_ ?_ ?_ (fun q c hq hc => ?_) (fun o' j z1 z2 z3 => ?_) ?_ ?_ ?_ (fun q c hq hc => ?_) A3
      · rw [i2, if_neg (by omega), zj j z2 z3 z4, xD j (by omega) (by omega)]
      · rw [i2, if_neg (by omega), u_self]
      · rw [i2, if_neg (by omega), u_ne (by omega), u_ne (by omega), u_self, xD _ (by omega) (by omega)]
      · rw [i2, if_neg (by omega), u_ne (by omega), u_self, xD _ (by omega) (by omega)]
      · rw [i2]
        by_cases hqw : q < w
        · rw [if_neg (by omega), if_pos hqw, zj _ (by omega) (by omega) (by omega), xD _ (by omega) (by omega)]
        · rw [if_pos (by omega), if_neg hqw, zj _ (by omega) (by omega) (by omega), xD _ (by omega) (by omega), show 105 + 3 * q + c + 3 = 105 + 3 * (q + 1) + c by omega]
      · rw [vE_ne (by omega) (by omega), vE_ne (by omega) (by omega), u_ne (by omega), u_ne (by omega)]
      · rw [vE_n, show n - (r + 1 - w) = n2 - 1 by omega]
      · rw [vE_ne (by omega) (by omega), vE_ne (by omega) (by omega), u_ne (by omega), u_self]
      · rw [vE_ne (by omega) (by omega), vE_ne (by omega) (by omega), u_self]
      · by_cases hqw : q < w
        · rw [if_pos hqw, vE_lo hqw (by omega), vE_lo hqw (by omega), u_ne (by omega), u_ne (by omega)]
        · rw [if_neg hqw, vE_hi (by omega) (by omega), vE_hi (by omega) (by omega), u_ne (by omega), u_ne (by omega), show q + (r + 1 - w) = q + 1 + (r - w) by omega]
    · rw [u_row (by omega), u_row (by omega), D4k a ha]
    · rw [i3 a ha, u_row ha, u_row ha, u_row ha, xA a ha]
