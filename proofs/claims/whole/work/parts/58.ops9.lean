/-! rolling asked: 25, 26, 27 -/
section VR3
variable {D : am_DD} {m n kp o : Nat}
theorem ar_bound (h : vw D m n kp o) {K j : Nat} (hK : K ≤ 5000) : ar D m K j < 2 ^ 31 := by
  unfold ar
  by_cases hm0 : m = 0
  · rw [if_pos hm0]; omega
  · rw [if_neg hm0]
    have b := bs_bound (T0 := t0 D) (T1 := t1 D) (k := K) m j
    have p12 : (2 : Nat) ^ m ≤ 2 ^ 12 := Nat.pow_le_pow_right (by omega) h.1.1
    have : (K + 1) * 2 ^ m ≤ 5001 * 2 ^ 12 := Nat.mul_le_mul (by omega) p12
    omega
theorem ar_pos (hm : 0 < m) {K j : Nat} : ar D m K j = bs (t0 D) (t1 D) K m j := if_neg (by omega)
theorem lp_224 {K : Nat} (h : vw D m n kp o) (hm : 0 < m) (hK : K ≤ 5000) : ∀ (c i N : Nat) (Dc : am_DD) (A : Nat → Nat), i + c = K → c < N → rl_fp (t0 D) (t1 D) m i A → RS D A Dc → ∃ b D1, b < 5 ∧ fn_224_19 N (Int32.ofNat K) (Int32.ofNat i) Dc = some (Int32.ofNat b, D1) ∧ (∀ a, a ≠ 35 → a ≠ 37 → D1 a = D a) ∧ ∀ j, 20 ≤ j → ar D m (K + 1) j = ar D m K j + (if j = 20 + b then 1 else 0) := by
  intro c
  induction c with
  | zero =>
    intro i N Dc A hi hN hA hR
    obtain ⟨N, rfl⟩ : ∃ n', N = n' + 1 := ⟨N - 1, by omega⟩
    have : i = K := by omega
    subst this
    obtain ⟨b, D1, A', i1, i2, i3, i4, i5⟩ := roll1 h hm hA hR
    refine ⟨b, D1, i1, ?_, i3.1, fun j hj => ?_⟩
    · rw [fn_224_19, if_pos (n_ile (by omega) (by omega) (Nat.le_refl _)), i2]
    · rw [ar_pos hm, ar_pos hm, ← fp_bs h i4 j, ← fp_bs h hA j, i5 j hj]
  | succ c ih =>
    intro i N Dc A hi hN hA hR
    obtain ⟨N, rfl⟩ : ∃ n', N = n' + 1 := ⟨N - 1, by omega⟩
    obtain ⟨b, D1, A', i1, i2, i3, i4, i5⟩ := roll1 h hm hA hR
    obtain ⟨b', D2, j1, j2, j3, j4⟩ := ih (i + 1) N D1 A' (by omega) (by omega) i4 i3
    refine ⟨b', D2, j1, ?_, j3, j4⟩
    rw [fn_224_19, if_neg (n_nle (by omega) (by omega) (by omega)), i2]
    dsimp only
    rw [nI_up]
    exact j2
/-- the reference looks for the bin that gained -/
theorem lp_227 {K b : Nat} (h : vw D m n kp o) (hK : K < 5000) (hb : b ≤ 5) (hno : ∀ j, j < b → ¬ ar D m K (20 + j) < ar D m (K + 1) (20 + j)) (hyes : b < 5 → ar D m K (20 + b) < ar D m (K + 1) (20 + b)) : ∀ (c j N : Nat) (Dr : am_DD), j + c = b → c < N → Dr 322 = D 322 → ∃ D2, fn_227_27 N (Int32.ofNat K) (Int32.ofNat j) Dr = some (if b < 5 then Int32.ofNat b else -1, D2) ∧ ∀ a, a ≠ 327 → D2 a = Dr a := by
  have step : ∀ (j : Nat) (Dr : am_DD), j < 5 → Dr 322 = D 322 → ∃ Da Db, fn_218 (Int32.ofNat K) Dr = some (0, Da) ∧ fn_218 (Int32.ofNat K + 1) Da = some (0, Db) ∧ Db 322 = D 322 ∧ (∀ a, a ≠ 327 → Db a = Dr a) ∧ Da 327 (20 + j) = Int32.ofNat (ar D m K (20 + j)) ∧ Db 327 (20 + j) = Int32.ofNat (ar D m (K + 1) (20 + j)) := fun j Dr hj hr => by
    obtain ⟨Da, a1, a2, a3⟩ := fn_218_n (K := K) (by omega) h hr
    obtain ⟨Db, b1, b2, b3⟩ := fn_218_n (K := K + 1) (by omega) h (Dr := Da) (by rw [a2 322 (by omega), hr])
    exact ⟨Da, Db, a1, by rw [nI_up]; exact b1, by rw [b2 322 (by omega), a2 322 (by omega), hr], fun a ha => by rw [b2 a ha, a2 a ha], a3 _ (by omega), b3 _ (by omega)⟩
  intro c
  induction c with
  | zero =>
    intro j N Dr hj hN hr
    obtain ⟨N, rfl⟩ : ∃ n', N = n' + 1 := ⟨N - 1, by omega⟩
    have : j = b := by omega
    subst this
    by_cases h5 : j < 5
    · have q5 : ¬ (5 : Int32) ≤ Int32.ofNat j := n_nle (a := 5) (by omega) (by omega) (by omega)
      have e20 : (20 : Int32) + Int32.ofNat j = Int32.ofNat (20 + j) := n_add 20 j
      obtain ⟨Da, Db, s1, s2, s3, s4, s5, s6⟩ := step j Dr h5 hr
      have nb : ¬ (Int32.ofNat (20 + j) < 0 ∨ 25 ≤ (Int32.ofNat (20 + j)).toNatClampNeg) := n_bad (by decide) (by omega)
      have nle : ¬ Int32.ofNat (ar D m (K + 1) (20 + j)) ≤ Int32.ofNat (ar D m K (20 + j)) := n_nle (ar_bound h (by omega)) (ar_bound h (by omega)) (hyes h5)
      refine ⟨Db, ?_, s4⟩
      rw [fn_227_27, if_neg q5, s1]
      dsimp only
      rw [e20, if_neg nb, s2]
      dsimp only
      rw [if_neg nb, c_ofNat (by omega), s5, s6, if_neg nle, if_pos h5]
    · have q5 : (5 : Int32) ≤ Int32.ofNat j := n_ile (a := 5) (by omega) (by omega) (by omega)
      refine ⟨Dr, ?_, fun _ _ => rfl⟩
      rw [fn_227_27, if_pos q5, if_neg h5]
  | succ c ih =>
    intro j N Dr hj hN hr
    obtain ⟨N, rfl⟩ : ∃ n', N = n' + 1 := ⟨N - 1, by omega⟩
    have q5 : ¬ (5 : Int32) ≤ Int32.ofNat j := n_nle (a := 5) (by omega) (by omega) (by omega)
    have e20 : (20 : Int32) + Int32.ofNat j = Int32.ofNat (20 + j) := n_add 20 j
    obtain ⟨Da, Db, s1, s2, s3, s4, s5, s6⟩ := step j Dr (by omega) hr
    have nb : ¬ (Int32.ofNat (20 + j) < 0 ∨ 25 ≤ (Int32.ofNat (20 + j)).toNatClampNeg) := n_bad (by decide) (by omega)
    have le : Int32.ofNat (ar D m (K + 1) (20 + j)) ≤ Int32.ofNat (ar D m K (20 + j)) := n_ile (ar_bound h (by omega)) (ar_bound h (by omega)) (by have := hno j (by omega); omega)
    obtain ⟨D2, i1, i2⟩ := ih (j + 1) N Db (by omega) (by omega) s3
    refine ⟨D2, ?_, fun a ha => (i2 a ha).trans (s4 a ha)⟩
    rw [fn_227_27, if_neg q5, s1]
    dsimp only
    rw [e20, if_neg nb, s2]
    dsimp only
    rw [if_neg nb, c_ofNat (by omega), s5, s6, if_pos le, nI_up]
    exact i1
end VR3
set_option maxHeartbeats 2000000 in
theorem op_25 {k : Nat} {D : am_DD} (a : Int32) (hi : in_ok k D) : in_wr (hmf 1 0 0) k (fn_225 a D) (fn_227 a) := by
  obtain ⟨m, n, kp, o, h⟩ := vw_of hi.1
  have hm := h.1.1
  have e2 := h.2.1.2
  by_cases g1 : rng a (0 : Int32).toInt (999 : Int32).toInt
  · obtain ⟨K, rfl, hK⟩ := rng_num (hi := 999) g1
    have n0 : ¬ Int32.ofNat K < 0 := nI_pos (n := K) (by omega)
    have n1 : Int32.ofNat K < 1000 := (n_lt (b := 1000) (by omega) (by omega)).mpr (by omega)
    have M : ∀ (D1 : am_DD) (b : Nat) (y : Int32), (∀ a, a ≠ 35 → a ≠ 37 → D1 a = D a) → b ≤ 5 → (∀ j, j < b → ¬ ar D m K (20 + j) < ar D m (K + 1) (20 + j)) → (b < 5 → ar D m K (20 + b) < ar D m (K + 1) (20 + b)) → y = (if b < 5 then Int32.ofNat b else -1) → ∃ D2, fn_227 (Int32.ofNat K) (am_upd D1 329 0 y) = some (y, D2) ∧ ∀ a, a ≠ 327 → D2 a = am_upd (am_upd D1 329 0 y) 321 7 0 a := by
      intro D1 b y hD1 hb hno hyes hy
      obtain ⟨D2, r1, r2⟩ := lp_227 h (by omega) hb hno hyes b 0 100000 (am_upd (am_upd D1 329 0 y) 321 7 0) (by omega) (by omega) (by rw [u_row (by omega), u_row (by omega), hD1 322 (by omega) (by omega)])
      refine ⟨D2, ?_, r2⟩
      have r1' : fn_227_27 100000 (Int32.ofNat K) 0 (am_upd (am_upd D1 329 0 y) 321 7 0) = some (if b < 5 then Int32.ofNat b else -1, D2) := r1
      unfold fn_227 am_F
      simp only [fn_26_b, b01_t g1, i10, not_false_eq_true, if_true, if_false, fn_29_0, r1']
      rw [← hy]
    by_cases hm0 : m = 0
    · have z : ∀ K j, ar D m K j = 0 := fun K j => if_pos hm0
      obtain ⟨D2, j1, j2⟩ := M D 5 (-1) (fun _ _ _ => rfl) (by omega) (fun j _ => by rw [z, z]; omega) (fun q => by omega) rfl
      have nr : ¬ rng (0 : Int32) 0 (m - 1) := fun z => by
        have := z.2
        rw [l_0] at this
        omega
      refine in_qr (y := -1) (D1 := D) (D2 := D2) hi ?_ (fun _ _ _ => rfl) j1 j2
      unfold fn_225 fn_224
      simp only [if_neg n0, if_pos n1, fn_36_b e2 hm, b01_f nr, not_true, if_false]
    · have yr : rng (0 : Int32) 0 (m - 1) := ⟨by rw [l_0]; omega, by rw [l_0]; omega⟩
      obtain ⟨Dc, w1, w2⟩ := RS_0 h
      obtain ⟨b, D1, i0, i1, i2, i3⟩ := lp_224 h (by omega) (show K ≤ 5000 by omega) K 0 100000 Dc _ (by omega) (by omega) fp_zero w2
      have i1' : fn_224_19 100000 (Int32.ofNat K) 0 Dc = some (Int32.ofNat b, D1) := i1
      obtain ⟨D2, j1, j2⟩ := M D1 b (Int32.ofNat b) i2 (by omega) (fun j hj => by rw [i3 (20 + j) (by omega), if_neg (by omega)]; omega) (fun _ => by rw [i3 (20 + b) (by omega), if_pos rfl]; omega) (by rw [if_pos i0])
      refine in_qr (y := Int32.ofNat b) (D1 := D1) (D2 := D2) hi ?_ i2 j1 j2
      unfold fn_225 fn_224 am_F
      simp only [if_neg n0, if_pos n1, fn_36_b e2 hm, b01_t yr, i10, not_false_eq_true, if_true, w1, i1']
  · refine in_no (kk := 1) (y := 0) (b := 0) hi ?_ (by omega) (by decide) ?_
    · unfold fn_225
      rcases i_neg a with ⟨n2, -⟩ | ⟨n2, l2, w, rfl, hw31⟩
      · rw [if_pos n2]
      · have n4 : ¬ Int32.ofNat w < 1000 := fun z => g1 ⟨(i_le _ _).mp l2, by
          have := (n_lt (b := 1000) hw31 (by omega)).mp z
          rw [t_ofNat hw31]
          have : (999 : Int32).toInt = 999 := rfl
          omega⟩
        rw [if_neg n2, if_neg n4]
    · unfold fn_227
      simp only [fn_26_b, b01_f g1, not_true, if_true, if_false, fn_29_1]
      rfl
section VR4
variable {D : am_DD} {m n kp o : Nat}
theorem lp_228 {b : Nat} (h : vw D m n kp o) (hm : 0 < m) (hb : b < 5) : ∀ (c i N N' : Nat) (Dc : am_DD) (A : Nat → Nat), i + c = 4096 → c < N → c < N' → rl_fp (t0 D) (t1 D) m i A → RS D A Dc → A (20 + b) = 0 → ∃ y D1, fn_228_19 N (Int32.ofNat b) (Int32.ofNat i) Dc = some (y, D1) ∧ (∀ a, a ≠ 35 → a ≠ 37 → D1 a = D a) ∧ ∀ Dr : am_DD, Dr 322 = D 322 → ∃ D2, fn_231_23 N' (Int32.ofNat b) (Int32.ofNat i) Dr = some (y, D2) ∧ ∀ a, a ≠ 327 → D2 a = Dr a := by
  intro c
  induction c with
  | zero =>
    intro i N N' Dc A hi hN hN' hA hR h0
    obtain ⟨N, rfl⟩ : ∃ n', N = n' + 1 := ⟨N - 1, by omega⟩
    obtain ⟨N', rfl⟩ : ∃ n', N' = n' + 1 := ⟨N' - 1, by omega⟩
    have q : (4096 : Int32) ≤ Int32.ofNat i := n_ile (a := 4096) (by omega) (by omega) (by omega)
    refine ⟨-1, Dc, ?_, hR.1, fun Dr hr => ⟨Dr, ?_, fun _ _ => rfl⟩⟩
    · rw [fn_228_19, if_pos q]
    · rw [fn_231_23, if_pos q]
  | succ c ih =>
    intro i N N' Dc A hi hN hN' hA hR h0
    obtain ⟨N, rfl⟩ : ∃ n', N = n' + 1 := ⟨N - 1, by omega⟩
    obtain ⟨N', rfl⟩ : ∃ n', N' = n' + 1 := ⟨N' - 1, by omega⟩
    have q : ¬ (4096 : Int32) ≤ Int32.ofNat i := n_nle (a := 4096) (by omega) (by omega) (by omega)
    obtain ⟨b', D1, A', i1, i2, i3, i4, i5⟩ := roll1 h hm hA hR
    have e20 : (20 : Int32) + Int32.ofNat b = Int32.ofNat (20 + b) := n_add 20 b
    have nb : ¬ (Int32.ofNat (20 + b) < 0 ∨ 25 ≤ (Int32.ofNat (20 + b)).toNatClampNeg) := n_bad (by decide) (by omega)
    have hv : ar D m (i + 1) (20 + b) = (if 20 + b = 20 + b' then 1 else 0) := by
      rw [ar_pos hm, ← fp_bs h i4, i5 _ (by omega), h0, Nat.zero_add]
    have ref : ∀ Dr : am_DD, Dr 322 = D 322 → ∃ Da, (fn_231_23 (N' + 1) (Int32.ofNat b) (Int32.ofNat i) Dr = if Int32.ofNat (ar D m (i + 1) (20 + b)) ≤ 0 then fn_231_23 N' (Int32.ofNat b) (Int32.ofNat (i + 1)) Da else some (Int32.ofNat i, Da)) ∧ Da 322 = D 322 ∧ ∀ a, a ≠ 327 → Da a = Dr a := fun Dr hr => by
      obtain ⟨Da, a1, a2, a3⟩ := fn_218_n (K := i + 1) (by omega) h hr
      refine ⟨Da, ?_, by rw [a2 322 (by omega), hr], a2⟩
      rw [fn_231_23, if_neg q, nI_up, a1]
      dsimp only
      rw [e20, if_neg nb, c_ofNat (by omega), a3 _ (by omega)]
    by_cases hbb : b' = b
    · subst hbb
      refine ⟨Int32.ofNat i, D1, ?_, i3.1, fun Dr hr => ?_⟩
      · rw [fn_228_19, if_neg q, i2]
        dsimp only
        rw [if_neg (not_not_intro rfl)]
      · obtain ⟨Da, a1, a2, a3⟩ := ref Dr hr
        rw [hv, if_pos rfl, if_neg (by decide)] at a1
        exact ⟨Da, a1, a3⟩
    · have nbb : ¬ Int32.ofNat b' = Int32.ofNat b := fun z => hbb (n_inj (by omega) (by omega) z)
      obtain ⟨y, D2, j1, j2, j3⟩ := ih (i + 1) N N' D1 A' (by omega) (by omega) (by omega) i4 i3 (by rw [i5 _ (by omega), h0, if_neg (by omega)])
      refine ⟨y, D2, ?_, j2, fun Dr hr => ?_⟩
      · rw [fn_228_19, if_neg q, i2]
        dsimp only
        rw [if_pos nbb, nI_up]
        exact j1
      · obtain ⟨Da, a1, a2, a3⟩ := ref Dr hr
        rw [hv, if_neg (show ¬ 20 + b = 20 + b' by omega), if_pos (by decide)] at a1
        obtain ⟨D3, x1, x2⟩ := j3 Da a2
        exact ⟨D3, a1.trans x1, fun a ha => (x2 a ha).trans (a3 a ha)⟩
theorem lp_231_0 {b : Nat} (h : vw D m n kp o) (hm : m = 0) (hb : b < 5) : ∀ (c i N' : Nat) (Dr : am_DD), i + c = 4096 → c < N' → Dr 322 = D 322 → ∃ D2, fn_231_23 N' (Int32.ofNat b) (Int32.ofNat i) Dr = some (-1, D2) ∧ ∀ a, a ≠ 327 → D2 a = Dr a := by
  intro c
  induction c with
  | zero =>
    intro i N' Dr hi hN' hr
    obtain ⟨N', rfl⟩ : ∃ n', N' = n' + 1 := ⟨N' - 1, by omega⟩
    have q : (4096 : Int32) ≤ Int32.ofNat i := n_ile (a := 4096) (by omega) (by omega) (by omega)
    refine ⟨Dr, ?_, fun _ _ => rfl⟩
    rw [fn_231_23, if_pos q]
  | succ c ih =>
    intro i N' Dr hi hN' hr
    obtain ⟨N', rfl⟩ : ∃ n', N' = n' + 1 := ⟨N' - 1, by omega⟩
    have q : ¬ (4096 : Int32) ≤ Int32.ofNat i := n_nle (a := 4096) (by omega) (by omega) (by omega)
    have e20 : (20 : Int32) + Int32.ofNat b = Int32.ofNat (20 + b) := n_add 20 b
    have nb : ¬ (Int32.ofNat (20 + b) < 0 ∨ 25 ≤ (Int32.ofNat (20 + b)).toNatClampNeg) := n_bad (by decide) (by omega)
    obtain ⟨Da, a1, a2, a3⟩ := fn_218_n (K := i + 1) (by omega) h hr
    obtain ⟨D3, x1, x2⟩ := ih (i + 1) N' Da (by omega) (by omega) (by rw [a2 322 (by omega), hr])
    have z : ar D m (i + 1) (20 + b) = 0 := if_pos hm
    refine ⟨D3, ?_, fun a ha => (x2 a ha).trans (a2 a ha)⟩
    rw [fn_231_23, if_neg q, nI_up, a1]
    dsimp only
    rw [e20, if_neg nb, c_ofNat (by omega), a3 _ (by omega), z, if_pos (by decide)]
    exact x1
end VR4
set_option maxHeartbeats 2000000 in
theorem op_26 {k : Nat} {D : am_DD} (a : Int32) (hi : in_ok k D) : in_wr (hmf 0 0 1) k (fn_229 a D) (fn_231 a) := by
  obtain ⟨m, n, kp, o, h⟩ := vw_of hi.1
  have hm := h.1.1
  have e2 := h.2.1.2
  by_cases g1 : rng a 0 4
  · obtain ⟨b, rfl, hb⟩ := rng_num (hi := 4) g1
    have M : ∀ (D1 : am_DD) (y : Int32), (∀ a, a ≠ 35 → a ≠ 37 → D1 a = D a) → (∀ Dr : am_DD, Dr 322 = D 322 → ∃ D2, fn_231_23 100000 (Int32.ofNat b) 0 Dr = some (y, D2) ∧ ∀ a, a ≠ 327 → D2 a = Dr a) → ∃ D2, fn_231 (Int32.ofNat b) (am_upd D1 329 0 y) = some (y, D2) ∧ ∀ a, a ≠ 327 → D2 a = am_upd (am_upd D1 329 0 y) 321 7 0 a := by
      intro D1 y hD1 hR
      obtain ⟨D2, r1, r2⟩ := hR (am_upd (am_upd D1 329 0 y) 321 7 0) (by rw [u_row (by omega), u_row (by omega), hD1 322 (by omega) (by omega)])
      refine ⟨D2, ?_, r2⟩
      unfold fn_231 am_F
      simp only [fn_45_b, b01_t g1, i10, not_false_eq_true, if_true, if_false, fn_29_0, r1]
    by_cases hm0 : m = 0
    · have nr : ¬ rng (0 : Int32) 0 (m - 1) := fun z => by
        have := z.2
        rw [l_0] at this
        omega
      obtain ⟨D2, j1, j2⟩ := M D (-1) (fun _ _ _ => rfl) (fun Dr hr => lp_231_0 h hm0 (show b < 5 by omega) 4096 0 100000 Dr (by omega) (by omega) hr)
      refine in_qr (y := -1) (D1 := D) (D2 := D2) hi ?_ (fun _ _ _ => rfl) j1 j2
      unfold fn_229 fn_228
      simp only [fn_91_b, b01_t g1, i10, not_false_eq_true, if_true, fn_36_b e2 hm, b01_f nr, not_true, if_false]
    · have yr : rng (0 : Int32) 0 (m - 1) := ⟨by rw [l_0]; omega, by rw [l_0]; omega⟩
      obtain ⟨Dc, w1, w2⟩ := RS_0 h
      obtain ⟨y, D1, i1, i2, i3⟩ := lp_228 h (by omega) (show b < 5 by omega) 4096 0 100000 100000 Dc _ (by omega) (by omega) (by omega) fp_zero w2 rfl
      have i1' : fn_228_19 100000 (Int32.ofNat b) 0 Dc = some (y, D1) := i1
      obtain ⟨D2, j1, j2⟩ := M D1 y i2 i3
      refine in_qr (y := y) (D1 := D1) (D2 := D2) hi ?_ i2 j1 j2
      unfold fn_229 fn_228 am_F
      simp only [fn_91_b, b01_t g1, i10, not_false_eq_true, if_true, fn_36_b e2 hm, b01_t yr, w1, i1']
  · refine in_no (kk := 3) (y := 0) (b := 0) hi ?_ (by omega) (by decide) ?_
    · unfold fn_229
      simp only [fn_91_b, b01_f g1, not_true, if_false]
    · unfold fn_231
      simp only [fn_45_b, b01_f g1, not_true, if_true, if_false, fn_29_1]
      rfl
