/-! the mean pitch; the way -/
theorem mp_0 : mp_ok FP.fconst0 = true := by decide +kernel
theorem lp_207 {D D' : am_DD} {m n kp o : Nat} (h : vw D m n kp o) (hD : D' 322 = D 322) : ∀ (c q S N N' : Nat), q + c = kp → c < N → c < N' → S ≤ 30 * q → ∃ S' N2, S' ≤ 30 * kp ∧ fn_207_4 N (Int32.ofNat S) (Int32.ofNat q) D = some (Int32.ofNat S', D) ∧ fn_209_9 N' (Int32.ofNat S) (Int32.ofNat q) D' = fn_209_9 (N2 + 1) (Int32.ofNat S') (Int32.ofNat kp) D' := by
  have hk := h.1.2.2.1
  have e1 := h.2.2.2.1.1
  have e2 := h.2.2.2.1.2.1
  intro c
  induction c with
  | zero =>
    intro q S N N' hq hN hN' hS
    obtain ⟨N, rfl⟩ : ∃ n', N = n' + 1 := ⟨N - 1, by omega⟩
    obtain ⟨N', rfl⟩ : ∃ n', N' = n' + 1 := ⟨N' - 1, by omega⟩
    have : q = kp := by omega
    subst this
    refine ⟨S, N', hS, ?_, rfl⟩
    rw [fn_207_4, e2, if_pos (n_ile (by omega) (by omega) (by omega))]
  | succ c ih =>
    intro q S N N' hq hN hN' hS
    obtain ⟨N, rfl⟩ : ∃ n', N = n' + 1 := ⟨N - 1, by omega⟩
    obtain ⟨N', rfl⟩ : ∃ n', N' = n' + 1 := ⟨N' - 1, by omega⟩
    obtain ⟨p, hp, ps⟩ := h.2.2.2.2.2.2.2.2.2.2.2 q (by omega)
    have ps' : D 322 (225 + 3 * q + 2) = Int32.ofNat p := by rw [← ps, show 225 + 3 * q + 2 = 227 + 3 * q by omega]
    have g2 : fn_180 (Int32.ofNat q) 2 D' = some (D 322 (225 + 3 * q + 2), D') := vw_M 2 hD (by omega) (by omega)
    obtain ⟨S', N2, i1, i2, i3⟩ := ih (q + 1) (S + p) N N' (by omega) (by omega) (by omega) (by omega)
    refine ⟨S', N2, i1, ?_, ?_⟩
    · rw [fn_207_4, e2, if_neg (n_nle (by omega) (by omega) (by omega)), vw_n2 h (by omega)]
      dsimp only
      rw [ps', n_add, nI_up]
      exact i2
    · rw [fn_209_9, hD, e1, if_neg (n_nle (by omega) (by omega) (by omega)), g2]
      dsimp only
      rw [ps', n_add, nI_up]
      exact i3
theorem op_22 {k : Nat} {D : am_DD} (hi : in_ok k D) : ∃ y D2, fn_208 D = some (y, D) ∧ fn_209 D = some (y, D2) ∧ mp_ok y = true ∧ in_ok (k + 1) D2 := by
  obtain ⟨m, n, kp, o, h⟩ := vw_of hi.1
  have hk := h.1.2.2.1
  have e1 := h.2.2.2.1.1
  have e2 := h.2.2.2.1.2.1
  have hi2 : in_ok (k + 1) (am_upd D 321 7 0) := in_ok.agr (by omega) ((in_agr.rf D).upd (by decide)) hi
  obtain ⟨S', N2, i1, i2, i3⟩ := lp_207 h (D' := am_upd D 321 7 0) (u_row (by omega)) kp 0 0 100000 100000 (by omega) (by omega) (by omega) (by omega)
  have i2' : fn_207_4 100000 0 0 D = some (Int32.ofNat S', D) := i2
  have i3' : fn_209_9 100000 0 0 (am_upd D 321 7 0) = fn_209_9 (N2 + 1) (Int32.ofNat S') (Int32.ofNat kp) (am_upd D 321 7 0) := i3
  have e1' : am_upd D 321 7 0 322 10 = Int32.ofNat kp := by rw [u_ne (by omega), e1]
  by_cases hz : kp = 0
  · subst hz
    refine ⟨FP.fconst0, _, ?_, ?_, mp_0, hi2⟩
    · unfold fn_208
      rw [e2, if_pos (by decide)]
    · unfold fn_209 am_F
      have n0 : Int32.ofNat 0 = 0 := rfl
      rw [i3', fn_209_9, e1', if_pos (by decide), if_neg (not_not_intro n0)]
  · have n0 : ¬ Int32.ofNat kp ≤ 0 := mt (n_pos (by omega)).mp hz
    have n1 : ¬ Int32.ofNat kp = 0 := fun z => hz (n_inj (b := 0) (by omega) (by omega) z)
    have ok := mp_all (y := S') (kp := kp) (by omega) hk i1
    have ok1 : FP.fdiv (FP.i2f (Int32.ofNat S')) (FP.i2f (Int32.ofNat kp)) &&& 0x7fffffff ≤ 0x7f800000 := by
      unfold mp_ok mp_q at ok
      simp only [Bool.and_eq_true, decide_eq_true_eq] at ok
      exact ok.1
    refine ⟨mp_q S' kp, _, ?_, ?_, ok, hi2⟩
    · unfold fn_208 fn_207 am_F
      rw [e2, if_neg n0, i2']
      dsimp only
      rw [if_pos ok1]
      rfl
    · unfold fn_209 am_F
      rw [i3', fn_209_9, e1', if_pos (n_ile (by omega) (by omega) (by omega)), if_pos n1, if_pos ok1]
      rfl
/-- the view depends on few rows -/
theorem vw_congr {D D' : am_DD} {m n kp o : Nat} (hA : ∀ a, (a < 33 ∨ a = 322) → D' a = D a) (h : vw D m n kp o) : vw D' m n kp o := by
  have h322 := hA 322 (by omega)
  obtain ⟨a1, a2, a3, a4, a5, a6, a7, a8, a9, a10, a11, a12⟩ := h
  refine ⟨a1, ?_, ?_, ?_, fun g w hg hw => ?_, fun r w hr hw => ?_, fun q w hq hw => ?_, ?_, ?_, ?_, ?_, ?_⟩
  · rw [h322, hA 8 (by omega)]; exact a2
  · rw [h322, hA 19 (by omega)]; exact a3
  · rw [h322, hA 26 (by omega)]; exact a4
  · have : ∀ w, w < 7 → go w < 20 := by decide
    have := this w hw
    rw [h322, hA (1 + go w) (by omega)]; exact a5 g w hg hw
  · rw [h322, hA (21 + 2 * w) (by omega)]; exact a6 r w hr hw
  · rw [h322, hA (28 + 2 * w) (by omega)]; exact a7 q w hq hw
  · rw [h322]; exact a8
  · rw [h322]; exact a9
  · rw [h322]; exact a10
  · rw [h322]; exact a11
  · rw [h322]; exact a12
theorem fn_239_z {z : Int32} : ∀ (c x N : Nat) (D : am_DD), x + c = 25 → c < N → (∀ j, j < x → D 327 j = 0) → ∃ D' N2, fn_239_7 N z (Int32.ofNat x) D = fn_239_35 am_F z ((D 322 1) - 1) D' ∧ (∀ j, j < 25 → D' 327 j = 0) ∧ (∀ a, a ≠ 327 → D' a = D a) ∧ N2 = 0 := by
  intro c
  induction c with
  | zero =>
    intro x N D hx hN h0
    obtain ⟨N, rfl⟩ : ∃ n', N = n' + 1 := ⟨N - 1, by omega⟩
    refine ⟨D, 0, ?_, fun j hj => h0 j (by omega), fun _ _ => rfl, rfl⟩
    have q25 : (25 : Int32) ≤ Int32.ofNat x := n_ile (a := 25) (by omega) (by omega) (by omega)
    rw [fn_239_7, if_pos q25]
  | succ c ih =>
    intro x N D hx hN h0
    obtain ⟨N, rfl⟩ : ∃ n', N = n' + 1 := ⟨N - 1, by omega⟩
    obtain ⟨D', N2, i1, i2, i3, i4⟩ := ih (x + 1) N (am_upd D 327 x 0) (by omega) (by omega) (fun j hj => by
      by_cases z : j = x
      · rw [z, u_self]
      · rw [u_ne (fun q => z q.2)]
        exact h0 j (by omega))
    refine ⟨D', N2, ?_, i2, fun a ha => by rw [i3 a ha, u_row ha], i4⟩
    have q25 : ¬ (25 : Int32) ≤ Int32.ofNat x := n_nle (a := 25) (by omega) (by omega) (by omega)
    rw [fn_239_7, if_neg q25, if_neg (n_bad (by decide) (by omega)), c_ofNat (by omega), nI_up, i1, u_ne (by omega)]
theorem lp_237 {D : am_DD} {m n kp o : Nat} {z : Int32} (hz : z = 0 ∨ z = 1) (h : vw D m n kp o) : ∀ (g N N' : Nat) (Dc Dr : am_DD), g ≤ m → g < N → g < N' → (∀ a, a ≠ 39 → Dc a = D a) → Dr 322 = D 322 → (∀ j, j < 25 → Dc 39 j = Dr 327 j) →
    ∃ y Dc' Dr', fn_237_17 N z (Int32.ofNat g - 1) Dc = some (y, Dc') ∧ fn_239_35 N' z (Int32.ofNat g - 1) Dr = some (y, Dr') ∧ (∀ a, a ≠ 39 → Dc' a = Dc a) ∧ ∀ a, a ≠ 327 → Dr' a = Dr a := by
  intro g
  induction g with
  | zero =>
    intro N N' Dc Dr hg hN hN' hA hr hE
    obtain ⟨N, rfl⟩ : ∃ n', N = n' + 1 := ⟨N - 1, by omega⟩
    obtain ⟨N', rfl⟩ : ∃ n', N' = n' + 1 := ⟨N' - 1, by omega⟩
    have ng : Int32.ofNat 0 - 1 < 0 := by decide
    have f : rw_at (Dc 39) 25 0 = Dc 39 0 := rw_at_nI (k := 0) (by decide) (by decide)
    refine ⟨Dc 39 0, Dc, Dr, ?_, ?_, fun _ _ => rfl, fun _ _ => rfl⟩
    · rw [fn_237_17, if_pos ng, f]
    · rw [fn_239_35, if_pos ng, hE 0 (by omega)]
  | succ g ih =>
    intro N N' Dc Dr hg hN hN' hA hr hE
    obtain ⟨N, rfl⟩ : ∃ n', N = n' + 1 := ⟨N - 1, by omega⟩
    obtain ⟨N', rfl⟩ : ∃ n', N' = n' + 1 := ⟨N' - 1, by omega⟩
    have hm := h.1.1
    have hc : vw Dc m n kp o := vw_congr (fun a ha => hA a (by omega)) h
    have c322 : Dc 322 = D 322 := hA 322 (by omega)
    have eg : Int32.ofNat (g + 1) - 1 = Int32.ofNat g := by
      have : Int32.ofNat (g + 1) - 1 = Int32.ofNat (g + 1 - 1) := n_sub (b := 1) (by omega) (by omega)
      rw [this, Nat.add_sub_cancel]
    have em : Int32.ofNat g + (-1) = Int32.ofNat g - 1 := (Int32.sub_eq_add_neg _ 1).symm
    obtain ⟨t0, s0, b0⟩ := h.2.2.2.2.2.2.2.2.1 g 0 (by omega) (by omega)
    obtain ⟨t1, s1, b1⟩ := h.2.2.2.2.2.2.2.2.1 g 1 (by omega) (by omega)
    have f0 : fn_73 (Int32.ofNat g) 0 Dc = some (Dc 322 (13 + 7 * g + 0), Dc) := vw_tgt hc (e := 0) (by omega) (by omega)
    have f1 : fn_73 (Int32.ofNat g) 1 Dc = some (Dc 322 (13 + 7 * g + 1), Dc) := vw_tgt hc (e := 1) (by omega) (by omega)
    have g0 : fn_48 (Int32.ofNat g) 2 Dr = some (D 322 (13 + 7 * g + 0), Dr) := vw_tgtM hr (e := 0) (by omega) (by omega)
    have g1 : fn_48 (Int32.ofNat g) 3 Dr = some (D 322 (13 + 7 * g + 1), Dr) := vw_tgtM hr (e := 1) (by omega) (by omega)
    rw [c322, s0] at f0
    rw [c322, s1] at f1
    rw [s0] at g0
    rw [s1] at g1
    have ng : ¬ Int32.ofNat g < 0 := nI_pos (n := g) (by omega)
    have step : ∀ v : Int32, ∃ y Dc' Dr', fn_237_17 N z (Int32.ofNat g - 1) (am_upd Dc 39 g v) = some (y, Dc') ∧ fn_239_35 N' z (Int32.ofNat g - 1) (am_upd Dr 327 g v) = some (y, Dr') ∧ (∀ a, a ≠ 39 → Dc' a = am_upd Dc 39 g v a) ∧ ∀ a, a ≠ 327 → Dr' a = am_upd Dr 327 g v a := fun v =>
      ih N N' (am_upd Dc 39 g v) (am_upd Dr 327 g v) (by omega) (by omega) (by omega) (fun a ha => by rw [u_row ha, hA a ha]) (by rw [u_row (by omega), hr]) (fun j hj => by
        by_cases q : j = g
        · rw [q, u_self, u_self]
        · rw [u_ne (fun w => q w.2), u_ne (fun w => q w.2), hE j hj])
    rw [eg, fn_237_17, fn_239_35, if_neg ng, if_neg ng, f0, g0]
    dsimp only
    rw [f1, g1]
    dsimp only
    rw [rw_at_nI (show t0 < 25 by omega) (by decide), rw_at_nI (show t1 < 25 by omega) (by decide), em]
    simp only [rw_put_nI (show g < 25 by omega) (show 25 < 2 ^ 31 by decide)]
    have nb0 : ¬ (Int32.ofNat t0 < 0 ∨ 25 ≤ (Int32.ofNat t0).toNatClampNeg) := n_bad (by decide) (by omega)
    have nb1 : ¬ (Int32.ofNat t1 < 0 ∨ 25 ≤ (Int32.ofNat t1).toNatClampNeg) := n_bad (by decide) (by omega)
    have nbg : ¬ (Int32.ofNat g < 0 ∨ 25 ≤ (Int32.ofNat g).toNatClampNeg) := n_bad (by decide) (by omega)
    simp only [if_neg nb0, if_neg nb1, if_neg nbg]
    rw [c_ofNat (by omega), c_ofNat (by omega), c_ofNat (by omega), ← hE t0 (by omega), ← hE t1 (by omega)]
    have done : ∀ v : Int32, ∃ y Dc' Dr', fn_237_17 N z (Int32.ofNat g - 1) (am_upd Dc 39 g v) = some (y, Dc') ∧ fn_239_35 N' z (Int32.ofNat g - 1) (am_upd Dr 327 g v) = some (y, Dr') ∧ (∀ a, a ≠ 39 → Dc' a = Dc a) ∧ ∀ a, a ≠ 327 → Dr' a = Dr a := fun v => by
      obtain ⟨y, Dc', Dr', x1, x2, x3, x4⟩ := step v
      exact ⟨y, Dc', Dr', x1, x2, fun a ha => by rw [x3 a ha, u_row ha], fun a ha => by rw [x4 a ha, u_row ha]⟩
    have lt_le : (Dc 39 t1 < Dc 39 t0) ↔ ¬ (Dc 39 t0 ≤ Dc 39 t1) := by
      rw [i_lt, i_le]
      omega
    rcases hz with rfl | rfl
    · by_cases q : Dc 39 t0 ≤ Dc 39 t1
      · have q' : ¬ Dc 39 t1 < Dc 39 t0 := fun w => lt_le.mp w q
        simp only [if_pos q, if_neg q', if_true, not_true, if_false]
        exact done _
      · have q' : Dc 39 t1 < Dc 39 t0 := lt_le.mpr q
        simp only [if_neg q, if_pos q', if_true, i10, not_false_eq_true]
        exact done _
    · have z10 : ((0 : Int32) = 1) = False := eq_false (by decide)
      by_cases q : Dc 39 t0 ≤ Dc 39 t1
      · by_cases q' : Dc 39 t0 < Dc 39 t1
        · simp only [if_pos q, if_pos q', i10, if_false, z10, not_false_eq_true, if_true]
          exact done _
        · have e : Dc 39 t0 = Dc 39 t1 := by
            rw [i_lt] at q'
            rw [i_le] at q
            exact (i_eq _ _).mpr (by omega)
          simp only [if_pos q, if_neg q', i10, if_false, z10, not_false_eq_true, if_true]
          rw [e]
          exact done _
      · have q' : ¬ Dc 39 t0 < Dc 39 t1 := fun w => q (by rw [i_lt] at w; rw [i_le]; omega)
        simp only [if_neg q, if_neg q', i10, if_false, not_true]
        exact done _
theorem op_28 {k : Nat} {D : am_DD} {z : Int32} (hz : z = 0 ∨ z = 1) (hi : in_ok k D) : in_w2 k (fn_238 z D) (fn_239 z) := by
  obtain ⟨m, n, kp, o, h⟩ := vw_of hi.1
  have hm := h.1.1
  have wA : ∀ a, a ≠ 39 → rw_wipe D 39 25 a = D a := fun a ha => by
    funext j
    unfold rw_wipe
    rw [if_neg (fun q => ha q.1)]
  have w39 : ∀ j, j < 25 → rw_wipe D 39 25 39 j = 0 := fun j hj => if_pos ⟨rfl, hj⟩
  generalize hW : rw_wipe D 39 25 = W at wA w39
  have c8 : W 8 0 = Int32.ofNat m := by rw [wA 8 (by omega)]; exact h.2.1.2
  -- the class's run
  obtain ⟨y, Dc, Dr0, r1, -, r3, -⟩ := lp_237 hz h m 100000 100000 W (fun a j => if a = 327 then 0 else D a j) (Nat.le_refl _) (by omega) (by omega) wA rfl (fun j hj => by rw [w39 j hj]; rfl)
  have cA : ∀ a, a ≠ 39 → Dc a = D a := fun a ha => by rw [r3 a ha, wA a ha]
  obtain ⟨Dz, -, z1, z2, z3, -⟩ := fn_239_z (z := z) 25 0 100000 (am_upd Dc 321 7 0) (by omega) (by omega) (fun j hj => by omega)
  have z322 : Dz 322 = D 322 := by rw [z3 322 (by omega), u_row (by omega), cA 322 (by omega)]
  obtain ⟨y2, Dc2, Dr, s1, s2, s3, s4⟩ := lp_237 hz h m 100000 100000 W Dz (Nat.le_refl _) (by omega) (by omega) wA z322 (fun j hj => by rw [w39 j hj, z2 j hj])
  have e := Prod.mk.inj (Option.some.inj (r1.symm.trans s1))
  refine ⟨y, Dc, Dr, ?_, ?_, ?_⟩
  · unfold fn_238 fn_237 am_F
    rw [hW, c8, r1]
  · unfold fn_239 am_F
    have z1' : fn_239_7 100000 z 0 (am_upd Dc 321 7 0) = fn_239_35 am_F z (am_upd Dc 321 7 0 322 1 - 1) Dz := z1
    rw [z1', u_row (show 322 ≠ 321 by omega), cA 322 (by omega), h.2.1.1, e.1]
    exact s2
  · refine in_ok.agr (Nat.le_succ k) (fun a j hs => ?_) hi
    have z6 := scr_ne hs
    have h39 : a ≠ 39 := fun q => by subst q; simp [in_scr] at hs
    have h327 : a ≠ 327 := fun q => by subst q; simp [in_scr] at hs
    rw [s4 a h327, z3 a h327, u_ne z6.2, cA a h39]
