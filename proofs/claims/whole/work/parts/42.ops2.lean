/-! what may be undone and touches the live state only -/
theorem in_und2 {k : Nat} {D : am_DD} (hi : in_ok k D) {fC fM : am_DD → Option (Int32 × am_DD)}
    (hC : ∀ Dh : am_DD, (∀ a, ¬ hs_cls a → a ≠ 252 → Dh a = D a) → st_ok (1000 * k) (Dh 322) (st_v Dh 1) → ∃ y D1, fC Dh = some (y, D1) ∧ (∀ a, 33 ≤ a → D1 a = Dh a) ∧
      ∀ D4 : am_DD, D4 322 = Dh 322 → ∃ D5, fM D4 = some (y, D5) ∧ (∀ a, a ≠ 322 → D5 a = D4 a) ∧ ∃ s' E', st_ok (1000 * (k + 1)) s' E' ∧ (∀ j, j < 405 → D5 322 j = s' j) ∧ ∀ o j, st_hit o j = true → st_v D1 1 o j = E' o j) :
    ∃ Dh y D1 D4 D5, fn_22 D = some (0, Dh) ∧ fC Dh = some (y, D1) ∧ fn_31 (am_upd (am_upd D1 329 0 y) 321 7 0) = some (0, D4) ∧ fM D4 = some (y, D5) ∧ D5 321 7 = 0 ∧ D5 329 0 = y ∧ in_ok (k + 1) D5 ∧ ∀ a j, 320 < a → in_scr a j = false → D1 a j = D a j := by
  refine in_und hi (fun Dh hh hok => ?_)
  obtain ⟨y, D1, h1, h2, h3⟩ := hC Dh hh hok
  have b2 : ∀ a j, in_kc a j → D1 a j = Dh a j := fun a j h => by rw [h2 a (by have := h.1; omega)]
  refine ⟨y, D1, h1, b2, fun D4 c2 => ?_⟩
  obtain ⟨D5, g1, g2, s', E', g3, g4, g5⟩ := h3 D4 (by
    funext j
    rw [c2 _ _ (by omega) (by omega), u_ne (by omega), u_ne (by omega), h2 322 (by omega)])
  have d2 : ∀ a j, in_km a j → D5 a j = D4 a j := fun a j h => by rw [g2 a h.1]
  refine ⟨D5, g1, d2, ?_, tx_fin hi hh b2 c2 d2 (by rw [h2 45 (by omega)]) (fun j => by rw [h2 47 (by omega)]) (by rw [g2 321 (by omega)])⟩
  refine st_congr g4 (fun o j ho => ?_) g3
  have := st_v_hit ho
  rw [← g5 o j ho]
  unfold st_v
  rw [g2 _ (by omega), c2 _ j (by omega) (by omega), u_ne (by omega), u_ne (by omega)]
theorem hh_at {D Dh : am_DD} (hh : ∀ a, ¬ hs_cls a → a ≠ 252 → Dh a = D a) {a : Nat} (h : a < 56 ∨ 251 ≤ a) (h2 : a ≠ 252) : Dh a = D a := hh a (by unfold hs_cls; omega) h2
theorem gj_2 {g e : Nat} (he : e < 2) : gj (2 + e) g = 2 * g + e ∧ go (2 + e) = 15 := by
  obtain rfl | rfl : e = 0 ∨ e = 1 := by omega
  · exact ⟨rfl, rfl⟩
  · exact ⟨rfl, rfl⟩
theorem gj_4 {g e : Nat} (he : e < 2) : gj (4 + e) g = 2 * g + e ∧ go (4 + e) = 17 := by
  obtain rfl | rfl : e = 0 ∨ e = 1 := by omega
  · exact ⟨rfl, rfl⟩
  · exact ⟨rfl, rfl⟩
theorem ok_side {B : Nat} {D : am_DD} (h : st_ok B (D 322) (st_v D 1)) {g : Nat} (hg : g < 12) : D 322 (11 + 7 * g) = 0 ∨ D 322 (11 + 7 * g) = 1 := by
  obtain ⟨m, n, st, kp, o, hb, nb, r, e1, e2, gs, b, rs⟩ := h
  exact gs.2.2.1 g hg
theorem rng_lt {g : Nat} {hi : Int} (hg : g < 2 ^ 31) (h : rng (Int32.ofNat g) 0 hi) : (g : Int) ≤ hi := by
  have := h.2
  rw [t_ofNat hg] at this
  exact this
/-! a gate's exit is led elsewhere -/
set_option maxHeartbeats 1000000 in
theorem op_1 {k : Nat} {D : am_DD} (a1 a2 a3 : Int32) (hi : in_ok k D) : in_wr (hmf 2 0 1) k (fn_42 a1 a2 a3 D) (fn_50 a1 a2 a3) := by
  obtain ⟨m, hm, e1, e2⟩ := ok_m hi.1
  by_cases h1 : rng a1 0 (m - 1) ∧ rng a2 0 1
  · by_cases h3 : rng a3 0 (m - 1) ∨ rng a3 20 24
    · by_cases h4 : a1 < a3
      · obtain ⟨g, rfl, hg, hg31⟩ := rng_nat h1.1
        obtain ⟨e, rfl, he, -⟩ := rng_nat h1.2
        obtain ⟨t, rfl, ht, -⟩ := rng_nat (a := a3) (hi := 24) (by rcases h3 with z | z <;> omega)
        have hgt : g < t := (n_lt (by omega) (by omega)).mp h4
        have htm : t < m ∨ 20 ≤ t := by
          have l := t_ofNat (n := t) (by omega)
          rcases h3 with z | z
          · left; have := z.2; omega
          · right; have := z.1; omega
        obtain ⟨Dh, y, D1, D4, D5, u1, u2, u3, u4, u5, u6, u7, u8⟩ := in_und2 hi (fC := fn_41 (Int32.ofNat g) (Int32.ofNat e) (Int32.ofNat t)) (fM := fn_49 (Int32.ofNat g) (Int32.ofNat e) (Int32.ofNat t)) (by
          intro Dh hh hok
          have c3 : Dh 322 1 = Int32.ofNat m := by rw [hh_at hh (by omega) (by omega), e1]
          have q := ok_g hok g (2 + e) (by omega) (by omega)
          have j2 := gj_2 (g := g) (e := e) (by omega)
          have q2 : (2 : Int32) + Int32.ofNat e = Int32.ofNat (2 + e) := n_add 2 e
          rw [j2.1, j2.2] at q
          have sg := st_gset (m' := m) (g := g) (w := 2 + e) (v := Int32.ofNat t) c3 hm (by omega) (by omega) (fun h => by omega) (fun h => by omega) (fun _ => ⟨t, rfl, by omega⟩) hok
          rw [j2.1, j2.2] at sg
          refine ⟨Dh 16 (2 * g + e), am_upd Dh 16 (2 * g + e) (Int32.ofNat t), ?_, fun a ha => u_row (by omega), fun D4 c2 => ⟨am_upd D4 322 (11 + 7 * g + (2 + e)) (Int32.ofNat t), ?_, fun a ha => u_row ha, _, _, st_mono (by omega) sg, fun j _ => ?_, fun o j _ => by rw [st_v_up (r' := 16) (r := 15) rfl]⟩⟩
          · unfold fn_41
            rw [gx2, rw_at_nI (by omega) (by decide), rw_put_nI (by omega) (by decide)]
          · unfold fn_49
            rw [q2, fn_48_n (by omega)]
            dsimp only
            rw [fn_32_n (by omega)]
            dsimp only
            rw [c2, q]
          · rw [up_row, c2])
        refine ⟨y, 0, D1, ?_, Or.inl ⟨rfl, D5, ?_, u5, u6, u7⟩⟩
        · unfold fn_42
          simp only [fn_37_b e2 hm, b01_t h1, fn_38_b e2 hm, b01_t h3, i10, not_false_eq_true, if_true, if_false, h4, u1, u2]
        · have e3 : am_upd D1 329 0 y 322 1 = Int32.ofNat m := by rw [u_ne (by omega), u8 322 1 (by omega) (by decide), e1]
          unfold fn_50
          rw [fn_47_b e3 hm, if_pos ⟨h1, h3⟩, if_pos h4]
          simp only [fn_29_0, i10, not_false_eq_true, if_true, u3, u4]
      · refine in_no (kk := 1) (y := 0) (b := 0) hi ?_ (by omega) (by decide) ?_
        · unfold fn_42
          simp only [fn_37_b e2 hm, b01_t h1, fn_38_b e2 hm, b01_t h3, i10, not_false_eq_true, if_true, if_false, h4]
        · unfold fn_50
          rw [fn_47_b e1 hm, if_pos ⟨h1, h3⟩, if_neg h4]
          simp only [fn_29_2, not_true, if_false]
          rfl
    · refine in_no (kk := 3) (y := 0) (b := 0) hi ?_ (by omega) (by decide) ?_
      · unfold fn_42
        simp only [fn_37_b e2 hm, b01_t h1, fn_38_b e2 hm, b01_f h3, i10, not_true, if_false]
      · unfold fn_50
        rw [fn_47_b e1 hm, if_neg (fun z => h3 z.2)]
        simp only [fn_29_1, not_true, if_false]
        rfl
  · refine in_no (kk := 3) (y := 0) (b := 0) hi ?_ (by omega) (by decide) ?_
    · unfold fn_42
      simp only [fn_37_b e2 hm, b01_f h1, if_true]
    · unfold fn_50
      rw [fn_47_b e1 hm, if_neg (fun z => h1 z.1)]
      simp only [fn_29_1, not_true, if_false]
      rfl
/-! a gate is tuned -/
set_option maxHeartbeats 1000000 in
theorem op_2 {k : Nat} {D : am_DD} (a1 a2 : Int32) (hi : in_ok k D) : in_wr (hmf 2 0 1) k (fn_52 a1 a2 D) (fn_54 a1 a2) := by
  obtain ⟨m, hm, e1, e2⟩ := ok_m hi.1
  by_cases h1 : rng a1 0 (m - 1)
  · by_cases h2 : rng a2 0 30
    · obtain ⟨g, rfl, hg, hg31⟩ := rng_nat h1
      obtain ⟨p, rfl, hp, -⟩ := rng_nat h2
      obtain ⟨Dh, y, D1, D4, D5, u1, u2, u3, u4, u5, u6, u7, u8⟩ := in_und2 hi (fC := fn_51 (Int32.ofNat g) (Int32.ofNat p)) (fM := fun D14 => (match fn_48 (Int32.ofNat g) 1 D14 with | none => none | some (y16, D17) => (match fn_32 (Int32.ofNat g) 1 (Int32.ofNat p) D17 with | none => none | some (y19, D20) => some (y16, D20)))) (by
        intro Dh hh hok
        have c3 : Dh 322 1 = Int32.ofNat m := by rw [hh_at hh (by omega) (by omega), e1]
        have q : Dh 322 (11 + 7 * g + 1) = Dh 12 g := ok_g hok g 1 (by omega) (by omega)
        have sg := st_gset (m' := m) (g := g) (w := 1) (v := Int32.ofNat p) c3 hm (by omega) (by omega) (fun h => by omega) (fun _ => ⟨p, by omega, rfl⟩) (fun h => by omega) hok
        refine ⟨Dh 12 g, am_upd Dh 12 g (Int32.ofNat p), ?_, fun a ha => u_row (by omega), fun D4 c2 => ⟨am_upd D4 322 (11 + 7 * g + 1) (Int32.ofNat p), ?_, fun a ha => u_row ha, _, _, st_mono (by omega) sg, fun j _ => ?_, fun o j _ => by rw [st_v_up (r' := 12) (r := 11) rfl]; rfl⟩⟩
        · unfold fn_51
          rw [rw_at_nI (by omega) (by decide), rw_put_nI (by omega) (by decide)]
        · have f1 : fn_48 (Int32.ofNat g) 1 D4 = _ := fn_48_n (g := g) (w := 1) (by omega)
          have f2 : fn_32 (Int32.ofNat g) 1 (Int32.ofNat p) D4 = _ := fn_32_n (g := g) (w := 1) (by omega)
          simp only [f1, f2, c2, q]
        · rw [up_row, c2])
      refine ⟨y, 0, D1, ?_, Or.inl ⟨rfl, D5, ?_, u5, u6, u7⟩⟩
      · unfold fn_52
        simp only [fn_36_b e2 hm, b01_t h1, fn_13_b, b01_t h2, i10, not_false_eq_true, if_true, u1, u2]
      · have e3 : am_upd D1 329 0 y 322 1 = Int32.ofNat m := by rw [u_ne (by omega), u8 322 1 (by omega) (by decide), e1]
        unfold fn_54
        simp only [fn_44_b e3 hm, b01_t h1, fn_27_b, b01_t h2, fn_29_0, i10, not_false_eq_true, if_true, u3]
        exact u4
    · refine in_no (kk := 1) (y := 0) (b := 0) hi ?_ (by omega) (by decide) ?_
      · unfold fn_52
        simp only [fn_36_b e2 hm, b01_t h1, fn_13_b, b01_f h2, i10, not_false_eq_true, not_true, if_true, if_false]
      · unfold fn_54
        simp only [fn_44_b e1 hm, b01_t h1, fn_27_b, b01_f h2, fn_29_2, i10, not_false_eq_true, not_true, if_true, if_false]
        rfl
  · refine in_no (kk := 3) (y := 0) (b := 0) hi ?_ (by omega) (by decide) ?_
    · unfold fn_52
      simp only [fn_36_b e2 hm, b01_f h1, not_true, if_false]
    · unfold fn_54
      simp only [fn_44_b e1 hm, b01_f h1, fn_29_1, not_true, if_false]
      rfl
/-! a gate is flipped -/
theorem one_sub {v : Int32} (h : v = 0 ∨ v = 1) : 1 - v = 0 ∨ 1 - v = 1 := by
  rcases h with rfl | rfl
  · exact Or.inr rfl
  · exact Or.inl rfl
theorem fn_56_n {g : Nat} {D : am_DD} (hg : g < 12) : fn_56 (Int32.ofNat g) D = some (1 - D 10 g, am_upd (am_upd D 14 g (D 14 g + 1)) 10 g (1 - D 10 g)) := by
  unfold fn_56
  rw [rw_raise_nI hg (by decide), rw_at_nI hg (by decide), rw_at_nI hg (by decide), rw_put_nI hg (by decide), u_self, u_ne (by omega)]
theorem fn_59_n {g : Nat} {D : am_DD} (hg : g < 12) : fn_59 (Int32.ofNat g) D = some (1 - D 322 (11 + 7 * g + 0), am_upd (am_upd D 322 (11 + 7 * g + 0) (1 - D 322 (11 + 7 * g + 0))) 322 (11 + 7 * g + 6) (D 322 (11 + 7 * g + 6) + 1)) := by
  have f1 : ∀ D : am_DD, fn_48 (Int32.ofNat g) 0 D = _ := fun D => fn_48_n (g := g) (w := 0) (D := D) (by omega)
  have f2 : ∀ (v : Int32) (D : am_DD), fn_32 (Int32.ofNat g) 0 v D = _ := fun v D => fn_32_n (g := g) (w := 0) (v := v) (D := D) (by omega)
  have f3 : ∀ D : am_DD, fn_48 (Int32.ofNat g) 6 D = _ := fun D => fn_48_n (g := g) (w := 6) (D := D) (by omega)
  have f4 : ∀ (v : Int32) (D : am_DD), fn_32 (Int32.ofNat g) 6 v D = _ := fun v D => fn_32_n (g := g) (w := 6) (v := v) (D := D) (by omega)
  unfold fn_59
  simp only [f1, f2, f3, f4]
  rw [u_ne (by omega), u_self, u_ne (by omega)]
theorem st_flip {B m g : Nat} {D4 Dh D1 D5 : am_DD} (hm : Dh 322 1 = Int32.ofNat m) (hm2 : m ≤ 12) (hg : g < m) (hok : st_ok B (Dh 322) (st_v Dh 1)) (c2 : D4 322 = Dh 322) (h1 : fn_56 (Int32.ofNat g) Dh = some (1 - Dh 10 g, D1)) (h5 : fn_59 (Int32.ofNat g) D4 = some (1 - Dh 10 g, D5)) : st_ok B (D5 322) (st_v D1 1) := by
  have s0 := ok_side hok (g := g) (by omega)
  have q0 : Dh 322 (11 + 7 * g) = Dh 10 g := ok_g hok g 0 (by omega) (by omega)
  have q6 : Dh 322 (11 + 7 * g + 6) = Dh 14 g := ok_g hok g 6 (by omega) (by omega)
  rw [q0] at s0
  rw [fn_56_n (by omega)] at h1
  rw [fn_59_n (by omega)] at h5
  have g1 := (Prod.mk.inj (Option.some.inj h1)).2
  have g5 := (Prod.mk.inj (Option.some.inj h5)).2
  have sg := st_gset (m' := m) (g := g) (w := 0) (v := 1 - Dh 10 g) (by rw [up_ne (by omega)]; exact hm) hm2 (by omega) (by omega) (fun _ => one_sub s0) (fun h => by omega) (fun h => by omega) (st_gset (m' := m) (g := g) (w := 6) (v := Dh 14 g + 1) hm hm2 (by omega) (by omega) (fun h => by omega) (fun h => by omega) (fun h => by omega) hok)
  refine st_congr (fun j _ => ?_) (fun o j _ => ?_) sg
  · rw [← g5, c2, up_row, up_row, c2, q6, Nat.add_zero, q0]
    by_cases z : j = 11 + 7 * g + 6
    · rw [z, up_self, up_ne (by omega), up_self]
    · rw [up_ne z]
      by_cases z2 : j = 11 + 7 * g
      · rw [z2, up_self, up_self]
      · rw [up_ne z2, up_ne z2, up_ne z]
  · rw [← g1, st_v_up (r' := 10) (r := 9) rfl, st_v_up (r' := 14) (r := 13) rfl]
    rfl
theorem run_flip {B g : Nat} {Dh D4 : am_DD} (hg : g < 12) (hok : st_ok B (Dh 322) (st_v Dh 1)) (c2 : D4 322 = Dh 322) : ∃ D5, fn_59 (Int32.ofNat g) D4 = some (1 - Dh 10 g, D5) ∧ ∀ a, a ≠ 322 → D5 a = D4 a := by
  have q0 : Dh 322 (11 + 7 * g + 0) = Dh 10 g := ok_g hok g 0 (by omega) (by omega)
  refine ⟨_, by rw [fn_59_n hg, c2, q0], fun a ha => by rw [u_row ha, u_row ha]⟩
set_option maxHeartbeats 1000000 in
theorem op_3 {k : Nat} {D : am_DD} (a : Int32) (hi : in_ok k D) : in_wr (hmf 0 0 1) k (fn_57 a D) (fn_60 a) := by
  obtain ⟨m, hm, e1, e2⟩ := ok_m hi.1
  by_cases h1 : rng a 0 (m - 1)
  · obtain ⟨g, rfl, hg, hg31⟩ := rng_nat h1
    obtain ⟨Dh, y, D1, D4, D5, u1, u2, u3, u4, u5, u6, u7, u8⟩ := in_und2 hi (fC := fn_56 (Int32.ofNat g)) (fM := fn_59 (Int32.ofNat g)) (by
      intro Dh hh hok
      have c3 : Dh 322 1 = Int32.ofNat m := by rw [hh_at hh (by omega) (by omega), e1]
      refine ⟨_, _, fn_56_n (by omega), fun a ha => by rw [u_row (by omega), u_row (by omega)], fun D4 c2 => ?_⟩
      obtain ⟨D5, r1, r2⟩ := run_flip (g := g) (by omega) hok c2
      exact ⟨D5, r1, r2, _, _, st_mono (by omega) (st_flip c3 hm (by omega) hok c2 (fn_56_n (by omega)) r1), fun _ _ => rfl, fun _ _ _ => rfl⟩)
    refine ⟨y, 0, D1, ?_, Or.inl ⟨rfl, D5, ?_, u5, u6, u7⟩⟩
    · unfold fn_57
      simp only [fn_36_b e2 hm, b01_t h1, i10, not_false_eq_true, if_true, u1, u2]
    · have e3 : am_upd D1 329 0 y 322 1 = Int32.ofNat m := by rw [u_ne (by omega), u8 322 1 (by omega) (by decide), e1]
      unfold fn_60
      simp only [fn_44_b e3 hm, b01_t h1, fn_29_0, i10, not_false_eq_true, if_true, if_false, u3, u4]
  · refine in_no (kk := 3) (y := 0) (b := 0) hi ?_ (by omega) (by decide) ?_
    · unfold fn_57
      simp only [fn_36_b e2 hm, b01_f h1, not_true, if_false]
    · unfold fn_60
      simp only [fn_44_b e1 hm, b01_f h1, fn_29_1, not_true, if_true, if_false]
      rfl
