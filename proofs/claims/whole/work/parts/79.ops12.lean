/-! the orders as one call that may be undone -/
theorem in_und3 {k : Nat} {D : am_DD} (hi : in_ok k D) {fC fM : am_DD → Option (Int32 × am_DD)} {P : Int32 → am_DD → am_DD → Prop}
    (hC : ∀ Dh : am_DD, (∀ a, ¬ hs_cls a → a ≠ 252 → Dh a = D a) → st_ok (1000 * k) (Dh 322) (st_v Dh 1) → ∃ y D1 Dm, fC Dh = some (y, D1) ∧ (∀ a j, in_kc a j → D1 a j = Dh a j) ∧ P y D1 Dm ∧ rf_fr (am_upd (am_upd D1 329 0 y) 321 7 0) Dm ∧
      ∀ D4 : am_DD, (∀ a j, ¬ a = 323 → ¬ (a = 321 ∧ j = 2) → D4 a j = Dm a j) → ∃ D5, fM D4 = some (y, D5) ∧ (∀ a j, in_km a j → D5 a j = D4 a j) ∧ st_ok (1000 * (k + 1)) (D5 322) (st_v D5 1) ∧ tx_ok D5) :
    ∃ Dh y D1 Dm D4 D5, fn_22 D = some (0, Dh) ∧ (∀ a, ¬ hs_cls a → a ≠ 252 → Dh a = D a) ∧ fC Dh = some (y, D1) ∧ P y D1 Dm ∧ fn_31 Dm = some (0, D4) ∧ fM D4 = some (y, D5) ∧ D5 321 7 = 0 ∧ D5 329 0 = y ∧ in_ok (k + 1) D5 := by
  obtain ⟨Dh, a1, a2, a3⟩ := hs_step hi.1 hi.2.1
  have e322 : Dh 322 = D 322 := a2 322 (by unfold hs_cls; omega) (by omega)
  have h1 : st_ok (1000 * k) (Dh 322) (st_v Dh 1) := by
    refine st_congr (fun j _ => by rw [e322]) (fun o j ho => ?_) hi.1
    have := st_v_hit ho
    unfold st_v
    rw [a2 _ (by unfold hs_cls; omega) (by omega)]
  obtain ⟨y, D1, Dm, b1, b2, bP, bm, b3⟩ := hC Dh a2 h1
  obtain ⟨D4, c1, c2, c3⟩ := a3 Dm
    (by funext j; rw [bm 323 j (by omega) (by omega), u_row (by decide), u_row (by decide), b2 323 j ⟨by omega, by omega, by simp [in_scr]⟩, a2 323 (by unfold hs_cls; omega) (by omega)])
    (by rw [bm 321 2 (by omega) (by omega), u_ne (by decide), u_row (by decide), b2 321 2 ⟨by omega, by omega, by decide⟩, a2 321 (by unfold hs_cls; omega) (by omega)])
    (by funext j; rw [bm 322 j (by omega) (by omega), u_row (by decide), u_row (by decide), b2 322 j ⟨by omega, by omega, by simp [in_scr]⟩, e322])
  obtain ⟨D5, d1, d2, d3, d4⟩ := b3 D4 c2
  have run : ∀ a j, 50 ≤ a → a < 321 → in_scr a j = false → D5 a j = Dh a j := fun a j h50 h h2 => by
    rw [d2 a j ⟨by omega, by omega, by omega, by omega⟩, c2 a j (by omega) (by omega), bm a j (by omega) (by omega), u_ne (by omega), u_ne (by omega), b2 a j ⟨h50, by omega, h2⟩]
  refine ⟨Dh, y, D1, Dm, D4, D5, a1, a2, b1, bP, c1, d1, ?_, ?_, ⟨d3, ?_, ?_, d4⟩⟩
  · rw [d2 321 7 ⟨by omega, by omega, by omega, by omega⟩, c2 321 7 (by omega) (by omega), bm 321 7 (by omega) (by omega), u_self]
  · rw [d2 329 0 ⟨by omega, by omega, by omega, by omega⟩, c2 329 0 (by omega) (by omega), bm 329 0 (by omega) (by omega), u_ne (by omega), u_self]
  · have hh : hs_ok (1000 * k) D5 := c3 D5 (fun a ha => ?_) (fun j => d2 323 j ⟨by omega, by omega, by omega, by omega⟩) (d2 321 2 ⟨by omega, by omega, by omega, by omega⟩)
    · obtain ⟨o, c, z1, z2, z3, z4, z5, z6⟩ := hh
      exact ⟨o, c, z1, z2, z3, z4, z5, fun r hr => st_mono (by omega) (z6 r hr)⟩
    · funext j
      unfold hs_cls at ha
      exact run a j (by omega) (by omega) (in_scr_runs a (by omega) (by omega) (by omega) j)
  · have old : ∀ a j, 255 ≤ a → a < 320 → D5 a j = D a j := fun a j h1 h2 => by
      rw [run a j (by omega) (by omega) (in_scr_runs a (by omega) (by omega) (by omega) j), a2 a (by unfold hs_cls; omega) (by omega)]
    have o320 : ∀ j, D5 320 j = D 320 j := fun j => by
      rw [run 320 j (by omega) (by omega) (by simp [in_scr]), a2 320 (by unfold hs_cls; omega) (by omega)]
    have o3 : ∀ a j, (a = 324 ∨ a = 325) → D5 a j = D a j := fun a j h => by
      rw [d2 a j ⟨by omega, by omega, by omega, by omega⟩, c2 a j (by omega) (by omega), bm a j (by omega) (by omega), u_ne (by omega), u_ne (by omega), b2 a j ⟨by omega, by omega, by rcases h with h | h <;> subst h <;> simp [in_scr]⟩, a2 a (by unfold hs_cls; omega) (by omega)]
    intro t ht
    rw [o3 325 t (Or.inr rfl), o320 t]
    rcases hi.2.2.1 t ht with z | ⟨z1, z2, z3⟩
    · exact Or.inl z
    · refine Or.inr ⟨z1, z2, st_mono (by omega) (st_congr (fun j _ => o3 324 _ (Or.inl rfl)) (fun q j hq => ?_) z3)⟩
      have := st_v_hit hq
      exact old _ _ (by omega) (by omega)
/-- the class's orders, the reference's -/
def oC (D : am_DD) : Option (Int32 × am_DD) := match fn_136_41 100000 (D 45 3 + 1) 0 D with
  | none => none
  | some (y, kk, D1) => if kk = 0 then some (y, D1) else none
def oM (D : am_DD) : Option (Int32 × am_DD) := match fn_126 1 D with
  | none => none
  | some (y, D1) => if y = 0 then some (0, am_upd D1 321 6 0) else some (am_upd D1 321 6 0 321 12, am_upd D1 321 6 0)
theorem oC_eq {D D1 : am_DD} {y : Int32} (h : oC D = some (y, D1)) : fn_136_41 100000 (D 45 3 + 1) 0 D = some (y, 0, D1) := by
  unfold oC at h
  cases hq : fn_136_41 100000 (D 45 3 + 1) 0 D with
  | none => rw [hq] at h; cases h
  | some q =>
    obtain ⟨y', kk, D'⟩ := q
    rw [hq] at h
    dsimp only at h
    by_cases z : kk = 0
    · rw [if_pos z] at h
      cases h
      rw [z]
    · rw [if_neg z] at h
      cases h
theorem fn_136_eq (D : am_DD) : fn_136 D = (match fn_128 D with | none => none | some (y1, D2) => (if ¬ y1 = 0 then (match fn_22 D2 with | none => none | some (_, D6) => fn_136_41 100000 (D6 45 3 + 1) 0 D6) else some (0, 1, D2))) := by
  unfold fn_136 fn_129
  rfl
theorem fn_138_eq (D : am_DD) : fn_138 D = (match fn_126 0 D with | none => none | some (y1, D2) => (if y1 = 0 then (match fn_29 1 D2 with | none => none | some (y5, D6) => (if ¬ y5 = 0 then (match fn_31 D6 with | none => none | some (_, D10) => oM D10) else some (0, D6))) else (match fn_29 0 D2 with | none => none | some (y16, D17) => (if ¬ y16 = 0 then (match fn_31 D17 with | none => none | some (_, D21) => oM D21) else some (0, D17))))) := by
  unfold fn_138 oM
  rfl
set_option maxHeartbeats 1000000 in
theorem op_11 {k : Nat} {D : am_DD} (hi : in_ok k D) : in_wr (hmf 1 0 0) k (fn_136 D) fn_138 := by
  obtain ⟨len, T, ht⟩ := tx_of hi.2.2.2
  have l60 := ht.1
  obtain ⟨c0, c1⟩ := chk_c ht
  cases hp : ps T len 61 0 with
  | inl f =>
    obtain ⟨D1, d1, d2, d3, d4⟩ := c0 f hp
    have t1 := d4.tx ht
    obtain ⟨m0, m1⟩ := chk_m t1.m
    obtain ⟨D2, e1, e2, e3⟩ := m0 f hp
    refine ⟨0, 1, D1, ?_, Or.inr ⟨by decide, by omega, 0, am_upd D2 321 7 1, ?_, u_self _ _ _ _, in_ok.agr (by omega) ((d4.agr.tr e3.agr).upd (by decide)) hi⟩⟩
    · have z : fn_128 D = some (0, D1) := by
        unfold fn_128
        rw [d1]
        dsimp only
        rw [t1.2.1]
        by_cases q : f = len
        · rw [if_neg (not_not_intro (by rw [q])), d3 q]
          rfl
        · rw [if_pos (n_ne (by omega) (by omega) q)]
      rw [fn_136_eq, z]
      rfl
    · rw [fn_138_eq, e1]
      rfl
  | inr w =>
    obtain ⟨Dc, w', d1, d2, d3, d4, d5, d6, d7⟩ := c1 w hp
    have tc := d6.tx ht
    have z : fn_128 D = some (1, Dc) := by
      unfold fn_128
      rw [d1]
      dsimp only
      rw [tc.2.1, if_neg (not_not_intro rfl), d2]
      rfl
    have hic : in_ok k Dc := in_ok.agr (by omega) d6.agr hi
    obtain ⟨Dh, y, D1, Dm, D4, D5, u1, u2, u3, u4, u5, u6, u7, u8, u9⟩ := in_und3 hic (fC := oC) (fM := oM) (P := fun y D1 Dm => ∃ Dz, fn_126 0 (am_upd D1 329 0 y) = some (1, Dz) ∧ Dm = am_upd Dz 321 7 0) (by
      intro Dh hh hok
      have g3 : Dh 45 3 + 1 = Int32.ofNat w := by rw [hh_at hh (by omega) (by omega), d4, nI_up, d3]
      have oh : ods T len Dh w 0 0 := ods_congr (fun a j ha => by rw [hh_at hh (by omega) (by omega)]) _ _ _ d5
      have th : txm Dh len T := by
        obtain ⟨q1, q2, q3, q4⟩ := tc
        exact ⟨q1, trivial, by rw [hh_at hh (by omega) (by omega)]; exact q3, fun j hj => ⟨trivial, by rw [hh_at hh (by omega) (by omega)]; exact (q4 j hj).2.1, (q4 j hj).2.2⟩⟩
      have lp : ∀ R : am_DD, txm R len T → R 321 9 = Int32.ofNat 0 → R 321 12 = Int32.ofNat 0 → R 322 = Dh 322 → ∃ y C1 R1, fn_136_41 100000 (Int32.ofNat w) (Int32.ofNat 0) Dh = some (Int32.ofNat y, 0, C1) ∧ rdM 100000 1 R = some (1, R1) ∧ R1 321 12 = Int32.ofNat y ∧ cx_fr Dh C1 ∧ rx_fr R R1 ∧ st_ok (1000 * k + 50 * w) (R1 322) (st_v C1 1) := fun R hR h9 h12 h322 =>
        ex_lp w 0 0 w 100000 100000 (1000 * k) Dh R oh (by omega) (by omega) hR h9 h12 (by omega) (by omega) (by omega) (by rw [h322]; exact hok)
      obtain ⟨y, C1, -, v1, -, -, v4, -, -⟩ := lp (am_upd (am_upd Dh 321 9 0) 321 12 0) (rf_fr.tx (D := Dh) (fun a j h1 h2 => by rw [u_ne (fun z => h2 (by omega)), u_ne (fun z => h2 (by omega))]) th) (by rw [u_ne (by omega), u_self]; rfl) (by rw [u_self]; rfl) (by rw [u_row (by omega), u_row (by omega)])
      have kc : ∀ a j, in_kc a j → C1 a j = Dh a j := fun a j h => v4.2 a j (by have := h.1; omega) (by have := h.1; omega)
      have tz : txm (am_upd C1 329 0 (Int32.ofNat y)) len T := by
        obtain ⟨q1, q2, q3, q4⟩ := th
        exact ⟨q1, trivial, by rw [u_ne (by omega), v4.2 321 6 (by omega) (by omega)]; exact q3, fun j hj => ⟨trivial, by rw [u_ne (by omega), v4.2 326 j (by omega) (by omega)]; exact (q4 j hj).2.1, (q4 j hj).2.2⟩⟩
      obtain ⟨Dz, z1, z2, z3⟩ := (chk_m tz).2 w hp
      have bm : rf_fr (am_upd (am_upd C1 329 0 (Int32.ofNat y)) 321 7 0) (am_upd Dz 321 7 0) := by
        intro a j h1 h2
        by_cases q : a = 321 ∧ j = 7
        · rw [q.1, q.2, u_self, u_self]
        · rw [u_ne q, u_ne q]
          exact z3 a j h1 h2
      refine ⟨Int32.ofNat y, C1, am_upd Dz 321 7 0, ?_, kc, ⟨Dz, z1, rfl⟩, bm, fun D4 c2 => ?_⟩
      · unfold oC
        have v1' : fn_136_41 100000 (Int32.ofNat w) 0 Dh = some (Int32.ofNat y, 0, C1) := v1
        rw [g3, v1']
        rfl
      · have k4 : ∀ a j, ¬ a = 323 → a ≠ 328 → ¬ (a = 321 ∧ (j = 2 ∨ j = 7 ∨ j = 9 ∨ j = 10 ∨ j = 12)) → a ≠ 329 → D4 a j = C1 a j := fun a j h1 h2 h3 h4 => by
          rw [c2 a j h1 (by omega), bm a j h2 (by omega), u_ne (by omega), u_ne (by omega)]
        generalize hR : am_upd (am_upd D4 321 9 0) 321 12 0 = R
        have fR : rf_fr D4 R := fun a j h1 h2 => by rw [← hR, u_ne (fun z => h2 (by omega)), u_ne (fun z => h2 (by omega))]
        have t4 : txm R len T := fR.tx (by
          obtain ⟨q1, q2, q3, q4⟩ := th
          exact ⟨q1, trivial, by rw [k4 321 6 (by omega) (by omega) (by omega) (by omega), v4.2 321 6 (by omega) (by omega)]; exact q3, fun j hj => ⟨trivial, by rw [k4 326 j (by omega) (by omega) (by omega) (by omega), v4.2 326 j (by omega) (by omega)]; exact (q4 j hj).2.1, (q4 j hj).2.2⟩⟩)
        obtain ⟨y', C1', R1, s1, s2, s3, s4, s5, s6⟩ := lp R t4 (by rw [← hR, u_ne (by omega), u_self]; rfl) (by rw [← hR, u_self]; rfl) (by
          funext j
          rw [fR 322 j (by omega) (by omega), k4 322 j (by omega) (by omega) (by omega) (by omega), v4.2 322 j (by omega) (by omega)])
        have same := Option.some.inj (v1.symm.trans s1)
        have same1 := (Prod.mk.inj same).1
        have same2 := (Prod.mk.inj (Prod.mk.inj same).2).2
        refine ⟨am_upd R1 321 6 0, ?_, fun a j h => ?_, ?_, ⟨0, by omega, ?_, u_self _ _ _ _, fun j hj => by omega⟩⟩
        · unfold oM
          rw [fn_126_r, hR, s2]
          dsimp only
          rw [if_neg (by decide), u_ne (by omega), s3, same1]
        · obtain ⟨h1, h2, h3, h4⟩ := h
          rw [u_ne (fun z => h4 (by omega)), s5 a j h1 h3 (fun z => h4 (by omega)), fR a j h3 (fun z => h4 (by omega))]
        · rw [u_row (by omega)]
          refine st_mono (by omega : 1000 * k + 50 * w ≤ 1000 * (k + 1)) (st_congr (fun _ _ => rfl) (fun o j ho => ?_) s6)
          have := st_v_hit ho
          unfold st_v
          rw [u_ne (by omega), s5 (1 + o) j (by omega) (by omega) (by omega), fR (1 + o) j (by omega) (by omega), k4 (1 + o) j (by omega) (by omega) (by omega) (by omega), same2]
        · rw [u_ne (by omega), s5 45 0 (by omega) (by omega) (by omega), fR 45 0 (by omega) (by omega), k4 45 0 (by omega) (by omega) (by omega) (by omega)]
          exact v4.1)
    obtain ⟨Dz, p1, p2⟩ := u4
    refine ⟨y, 0, D1, ?_, Or.inl ⟨rfl, D5, ?_, u7, u8, u9⟩⟩
    · rw [fn_136_eq, z]
      dsimp only
      rw [if_pos (by decide), u1]
      dsimp only
      exact oC_eq u3
    · rw [fn_138_eq, p1]
      dsimp only
      rw [if_neg (by decide), fn_29_0]
      dsimp only
      rw [if_pos (by decide), ← p2, u5]
      exact u6
