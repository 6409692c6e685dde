/-! ball by ball, and what the calls come to -/
def ar (D : am_DD) (m K j : Nat) : Nat := if m = 0 then 0 else bs (t0 D) (t1 D) K m j
section VR2
variable {D : am_DD} {m n kp o : Nat}
theorem fn_218_lp {a1 : Int32} : ∀ (c x N : Nat) (Dr : am_DD), x + c = 25 → c < N → (∀ j, j < x → Dr 327 j = 0) → ∃ D', fn_218_2 N a1 (Int32.ofNat x) Dr = (if D' 322 1 ≤ 0 then fn_218_39 am_F 0 D' else fn_218_39 am_F 0 (am_upd D' 327 0 a1)) ∧ (∀ j, j < 25 → D' 327 j = 0) ∧ ∀ a, a ≠ 327 → D' a = Dr a := by
  intro c
  induction c with
  | zero =>
    intro x N Dr hx hN h0
    obtain ⟨N, rfl⟩ : ∃ n', N = n' + 1 := ⟨N - 1, by omega⟩
    have q25 : (25 : Int32) ≤ Int32.ofNat x := n_ile (a := 25) (by omega) (by omega) (by omega)
    refine ⟨Dr, ?_, fun j hj => h0 j (by omega), fun _ _ => rfl⟩
    rw [fn_218_2, if_pos q25]
  | succ c ih =>
    intro x N Dr hx hN h0
    obtain ⟨N, rfl⟩ : ∃ n', N = n' + 1 := ⟨N - 1, by omega⟩
    have q25 : ¬ (25 : Int32) ≤ Int32.ofNat x := n_nle (a := 25) (by omega) (by omega) (by omega)
    obtain ⟨D', i1, i2, i3⟩ := ih (x + 1) N (am_upd Dr 327 x 0) (by omega) (by omega) (fun j hj => by
      by_cases z : j = x
      · rw [z, u_self]
      · rw [u_ne (fun q => z q.2)]
        exact h0 j (by omega))
    refine ⟨D', ?_, i2, fun a ha => by rw [i3 a ha, u_row ha]⟩
    rw [fn_218_2, if_neg q25, if_neg (n_bad (by decide) (by omega)), c_ofNat (by omega), nI_up, i1]
theorem fn_218_n {K : Nat} (hK : K ≤ 5000) (h : vw D m n kp o) {Dr : am_DD} (hr : Dr 322 = D 322) : ∃ D1, fn_218 (Int32.ofNat K) Dr = some (0, D1) ∧ (∀ a, a ≠ 327 → D1 a = Dr a) ∧ ∀ j, j < 25 → D1 327 j = Int32.ofNat (ar D m K j) := by
  have hm := h.1.1
  obtain ⟨D', i1, i2, i3⟩ := fn_218_lp (a1 := Int32.ofNat K) 25 0 100000 Dr (by omega) (by omega) (fun j hj => by omega)
  have i1' : fn_218_2 100000 (Int32.ofNat K) 0 Dr = (if D' 322 1 ≤ 0 then fn_218_39 am_F 0 D' else fn_218_39 am_F 0 (am_upd D' 327 0 (Int32.ofNat K))) := i1
  have d322 : D' 322 = D 322 := by rw [i3 322 (by omega), hr]
  unfold fn_218 am_F
  rw [i1', d322, h.2.1.1]
  unfold am_F
  by_cases hm0 : m = 0
  · subst hm0
    rw [if_pos (by decide)]
    have f : fn_218_39 (99999 + 1) 0 D' = some (0, D') := by
      rw [fn_218_39, d322, h.2.1.1, if_pos (by decide)]
    exact ⟨D', f, i3, fun j hj => by rw [i2 j hj]; rfl⟩
  · rw [if_neg (mt (n_pos (by omega)).mp hm0)]
    obtain ⟨D1, j1, j2, j3⟩ := lp_218 hK h m 0 100000 (am_upd D' 327 0 (Int32.ofNat K)) (by omega) (by omega) (by rw [u_row (by omega), d322]) (fun j hj => by
      by_cases z : j = 0
      · rw [z, u_self]
        rfl
      · rw [u_ne (fun q => z q.2), i2 j hj]
        have : bs (t0 D) (t1 D) K 0 j = 0 := if_neg z
        rw [this]
        rfl)
    refine ⟨D1, j1, fun a ha => by rw [j2 a ha, u_row ha, i3 a ha], fun j hj => ?_⟩
    rw [j3 j hj]
    unfold ar
    rw [if_neg hm0]
theorem fn_214_n {K x : Nat} (hK : K ≤ 5000) (hx : x < 25) (h : vw D m n kp o) : ∃ D1, fn_214 (Int32.ofNat K) (Int32.ofNat x) D = some (Int32.ofNat (bs (t0 D) (t1 D) K m x), D1) ∧ ∀ a, a ≠ 37 → D1 a = D a := by
  have wA : ∀ a, a ≠ 37 → rw_wipe D 37 25 a = D a := fun a ha => by
    funext j
    unfold rw_wipe
    rw [if_neg (fun q => ha q.1)]
  have w37 : ∀ j, j < 25 → rw_wipe D 37 25 37 j = 0 := fun j hj => if_pos ⟨rfl, hj⟩
  have f : rw_put (rw_wipe D 37 25) 37 25 0 (Int32.ofNat K) = am_upd (rw_wipe D 37 25) 37 0 (Int32.ofNat K) := rw_put_nI (k := 0) (by decide) (by decide)
  obtain ⟨D1, i1, i2, i3⟩ := lp_214 hK hx h m 0 100000 (am_upd (rw_wipe D 37 25) 37 0 (Int32.ofNat K)) (by omega) (by have := h.1.1; omega) (fun a ha => by rw [u_row ha, wA a ha]) (fun j hj => by
    by_cases z : j = 0
    · rw [z, u_self]
      rfl
    · rw [u_ne (fun q => z q.2), w37 j hj]
      have : bs (t0 D) (t1 D) K 0 j = 0 := if_neg z
      rw [this]
      rfl)
  refine ⟨D1, ?_, i2⟩
  unfold fn_214 am_F
  rw [f]
  exact i1
def par (a s : Nat) : Nat := if a % 2 = 0 then s else 1 - s
/-- the class's rolling state: A arrivals -/
def RS (D : am_DD) (A : Nat → Nat) (Dc : am_DD) : Prop := (∀ a, a ≠ 35 → a ≠ 37 → Dc a = D a) ∧ (∀ j, j < 25 → Dc 37 j = Int32.ofNat (A j)) ∧ ∀ g, g < 12 → Dc 35 g = Int32.ofNat (par (A g) (sd D g))
theorem lp_212 {K : Nat} (h : vw D m n kp o) : ∀ (c x2 x N : Nat) (Dc : am_DD) (A : Nat → Nat), x2 + c = 12 → c < N → ((x2 ≤ x ∧ x < m) ∨ (20 ≤ x ∧ x < 25)) → rl_mid (t0 D) (t1 D) m K x A → RS D A Dc →
    ∃ b D1 A', b < 5 ∧ fn_212_4 N (Int32.ofNat x) (Int32.ofNat x2) Dc = some (Int32.ofNat b, D1) ∧ RS D A' D1 ∧ rl_fp (t0 D) (t1 D) m K A' ∧ ∀ j, 20 ≤ j → A' j = A j + (if j = 20 + b then 1 else 0) := by
  have hm := h.1.1
  have last : ∀ (x2 x N : Nat) (Dc : am_DD) (A : Nat → Nat), x2 ≤ 12 → 0 < N → (20 ≤ x ∧ x < 25) → rl_mid (t0 D) (t1 D) m K x A → RS D A Dc →
    ∃ b D1 A', b < 5 ∧ fn_212_4 N (Int32.ofNat x) (Int32.ofNat x2) Dc = some (Int32.ofNat b, D1) ∧ RS D A' D1 ∧ rl_fp (t0 D) (t1 D) m K A' ∧ ∀ j, 20 ≤ j → A' j = A j + (if j = 20 + b then 1 else 0) := by
    intro x2 x N Dc A hx2 hN hx hmid ⟨r1, r2, r3⟩
    obtain ⟨N, rfl⟩ : ∃ n', N = n' + 1 := ⟨N - 1, by omega⟩
    have hc : vw Dc m n kp o := vw_congr (fun a ha => r1 a (by omega) (by omega)) h
    have nr : ¬ rng (Int32.ofNat x) 0 (m - 1) := fun z => by
      have := rng_lt (by omega) z
      omega
    have e20 : Int32.ofNat x - 20 = Int32.ofNat (x - 20) := n_sub (b := 20) (by omega) (by omega)
    refine ⟨x - 20, am_upd Dc 37 x (Dc 37 x + 1), fun j => if j = x then A j + 1 else A j, by omega, ?_, ⟨fun a h1 h2 => by rw [u_row h2, r1 a h1 h2], fun j hj => ?_, fun g hg => ?_⟩, mid_end (by omega) hmid, fun j hj => ?_⟩
    · rw [fn_212_4, fn_36_b hc.2.1.2 hm, b01_f nr]
      dsimp only
      rw [if_pos rfl, rw_raise_nI (by omega) (by decide), e20]
      split <;> rfl
    · dsimp only
      by_cases z : j = x
      · rw [z, u_self, if_pos rfl, r2 x (by omega), nI_up]
      · rw [u_ne (fun q => z q.2), if_neg z, r2 j hj]
    · dsimp only
      rw [u_row (by omega), if_neg (show ¬ g = x by omega), r3 g hg]
    · dsimp only
      by_cases z : j = x
      · rw [if_pos z, if_pos (by omega)]
      · rw [if_neg z, if_neg (by omega), Nat.add_zero]
  intro c
  induction c with
  | zero =>
    intro x2 x N Dc A hx hN hb hmid hR
    exact last x2 x N Dc A (by omega) (by omega) (by omega) hmid hR
  | succ c ih =>
    intro x2 x N Dc A hx hN hb hmid hR
    rcases hb with hb | hb
    · obtain ⟨N, rfl⟩ : ∃ n', N = n' + 1 := ⟨N - 1, by omega⟩
      obtain ⟨r1, r2, r3⟩ := id hR
      have hc : vw Dc m n kp o := vw_congr (fun a ha => r1 a (by omega) (by omega)) h
      have yr : rng (Int32.ofNat x) 0 (m - 1) := by
        rw [rng, t_ofNat (by omega)]
        omega
      have n12 : ¬ (12 : Int32) ≤ Int32.ofNat x2 := n_nle (a := 12) (by omega) (by omega) (by omega)
      obtain ⟨s1, s2⟩ := vw_sd h (show x < 12 by omega)
      have hs2 : par (A x) (sd D x) < 2 := by unfold par; split <;> omega
      have ht : tg D x (par (A x) (sd D x)) = (if A x % 2 = 0 then t0 D x else t1 D x) := by
        unfold par
        by_cases z : A x % 2 = 0
        · rw [if_pos z, if_pos z]; rfl
        · rw [if_neg z, if_neg z]; rfl
      have hpar : par (A x + 1) (sd D x) = 1 - par (A x) (sd D x) := by
        unfold par
        by_cases z : A x % 2 = 0
        · rw [if_pos z, if_neg (by omega)]
        · rw [if_neg z, if_pos (by omega)]; omega
      obtain ⟨a1, a2, a3, a4⟩ := vw_tg h hb.2 hs2
      rw [ht] at a1 a2 a3 a4
      have hst : sd D x < 2 := s2
      generalize hs : par (A x) (sd D x) = s at hs2 a1 hpar
      generalize htt : (if A x % 2 = 0 then t0 D x else t1 D x) = t at a1 a2 a3 a4
      have mid' := mid_step hb.2 hmid
      rw [htt] at mid'
      have e1 : (1 : Int32) - Int32.ofNat s = Int32.ofNat (1 - s) := n_sub (a := 1) (by omega) (by omega)
      have R' : RS D (fun j => if j = x then A j + 1 else A j) (am_upd (am_upd Dc 37 x (Dc 37 x + 1)) 35 x (Int32.ofNat (1 - s))) := by
        refine ⟨fun a h1 h2 => by rw [u_row h1, u_row h2, r1 a h1 h2], fun j hj => ?_, fun g hg => ?_⟩
        · dsimp only
          rw [u_row (by omega)]
          by_cases z : j = x
          · rw [z, u_self, if_pos rfl, r2 x (by omega), nI_up]
          · rw [u_ne (fun q => z q.2), if_neg z, r2 j hj]
        · dsimp only
          by_cases z : g = x
          · rw [z, u_self, if_pos rfl, hpar]
          · rw [u_ne (fun q => z q.2), u_row (by omega), if_neg z, r3 g hg]
      have hc2 : vw (am_upd (am_upd Dc 37 x (Dc 37 x + 1)) 35 x (Int32.ofNat (1 - s))) m n kp o := vw_congr (fun a ha => by rw [u_row (by omega), u_row (by omega)]) hc
      obtain ⟨b, D1, A', i1, i2, i3, i4, i5⟩ := ih (x2 + 1) t N _ _ (by omega) (by omega) (by omega) mid' R'
      refine ⟨b, D1, A', i1, ?_, i3, i4, fun j hj => ?_⟩
      · rw [fn_212_4, if_neg n12, fn_36_b hc.2.1.2 hm, b01_t yr]
        dsimp only
        rw [if_neg (by decide), rw_raise_nI (by omega) (by decide), rw_at_nI (show x < 12 by omega) (by decide), u_row (show 35 ≠ 37 by omega), r3 x (by omega), hs, e1, rw_put_nI (by omega) (by decide), vw_tgt hc2 (by omega) hs2, u_row (show 322 ≠ 35 by omega), u_row (show 322 ≠ 37 by omega), r1 322 (by omega) (by omega), a1]
        dsimp only
        rw [nI_up]
        exact i2
      · rw [i5 j hj, if_neg (show ¬ j = x by omega)]
    · exact last x2 x N Dc A (by omega) (by omega) hb hmid hR
/-- one ball more -/
theorem roll1 {K : Nat} {Dc : am_DD} {A : Nat → Nat} (h : vw D m n kp o) (hm : 0 < m) (hA : rl_fp (t0 D) (t1 D) m K A) (hR : RS D A Dc) : ∃ b D1 A', b < 5 ∧ fn_212 Dc = some (Int32.ofNat b, D1) ∧ RS D A' D1 ∧ rl_fp (t0 D) (t1 D) m (K + 1) A' ∧ ∀ j, 20 ≤ j → A' j = A j + (if j = 20 + b then 1 else 0) := by
  obtain ⟨b, D1, A', i1, i2, i3⟩ := lp_212 h 12 0 0 100000 Dc A (by omega) (by omega) (Or.inl ⟨by omega, hm⟩) (mid_start hA) hR
  exact ⟨b, D1, A', i1, i2, i3⟩
theorem rs_zero {T0 T1 : Nat → Nat} {t : Nat} : ∀ G, rs T0 T1 (fun _ => 0) t G = 0 := by
  intro G
  induction G with
  | zero => rfl
  | succ G ih =>
    unfold rs
    rw [ih]
    split <;> split <;> rfl
theorem fp_zero {T0 T1 : Nat → Nat} {m : Nat} : rl_fp T0 T1 m 0 (fun _ => 0) := by
  intro t
  rw [rs_zero]
  split <;> rfl
/-- the rolling state at the start -/
theorem RS_0 (h : vw D m n kp o) : ∃ Dc, fn_211 D = some (0, Dc) ∧ RS D (fun _ => 0) Dc := by
  refine ⟨_, rfl, fun a h1 h2 => ?_, fun j hj => ?_, fun g hg => ?_⟩
  · funext j
    unfold rw_wipe rw_copy
    rw [if_neg (fun z => h2 z.1), if_neg (fun z => h1 z.1)]
  · exact if_pos ⟨rfl, hj⟩
  · have e : rw_wipe (rw_copy D 10 35 12) 37 25 35 g = D 10 g := by
      unfold rw_wipe rw_copy
      rw [if_neg (fun z => by have := z.1; omega), if_pos ⟨rfl, hg⟩]
    rw [e]
    have q : D 322 (11 + 7 * g + 0) = D 10 g := h.2.2.2.2.1 g 0 hg (by omega)
    rw [← q, Nat.add_zero, (vw_sd h hg).1]
    rfl
/-- arrivals are those that the gate-by-gate count gives -/
theorem fp_bs {K : Nat} {A : Nat → Nat} (h : vw D m n kp o) (hA : rl_fp (t0 D) (t1 D) m K A) (t : Nat) : A t = bs (t0 D) (t1 D) K m t := fp_unique (vw_T h) hA (bs_fp (vw_T h)) (t + 1) t (by omega)
theorem lp_213 {K x : Nat} (h : vw D m n kp o) (hm : 0 < m) (hK : K ≤ 5000) (hx : x < 25) : ∀ (c i N : Nat) (Dc : am_DD) (A : Nat → Nat), i + c = K → c < N → rl_fp (t0 D) (t1 D) m i A → RS D A Dc → ∃ D1, fn_213_19 N (Int32.ofNat K) (Int32.ofNat x) (Int32.ofNat i) Dc = some (Int32.ofNat (bs (t0 D) (t1 D) K m x), D1) ∧ ∀ a, a ≠ 35 → a ≠ 37 → D1 a = D a := by
  intro c
  induction c with
  | zero =>
    intro i N Dc A hi hN hA hR
    obtain ⟨N, rfl⟩ : ∃ n', N = n' + 1 := ⟨N - 1, by omega⟩
    have : i = K := by omega
    subst this
    refine ⟨Dc, ?_, hR.1⟩
    rw [fn_213_19, if_pos (n_ile (by omega) (by omega) (Nat.le_refl _)), rw_at_nI hx (by decide), hR.2.1 x hx, fp_bs h hA x]
  | succ c ih =>
    intro i N Dc A hi hN hA hR
    obtain ⟨N, rfl⟩ : ∃ n', N = n' + 1 := ⟨N - 1, by omega⟩
    obtain ⟨b, D1, A', i1, i2, i3, i4, i5⟩ := roll1 h hm hA hR
    obtain ⟨D2, j1, j2⟩ := ih (i + 1) N D1 A' (by omega) (by omega) i4 i3
    refine ⟨D2, ?_, j2⟩
    rw [fn_213_19, if_neg (n_nle (by omega) (by omega) (by omega)), i2]
    dsimp only
    rw [nI_up]
    exact j1
theorem fn_213_n {K x : Nat} (h : vw D m n kp o) (hK : K ≤ 5000) (hx : x < 25) : ∃ D1, fn_213 (Int32.ofNat K) (Int32.ofNat x) D = some (Int32.ofNat (ar D m K x), D1) ∧ ∀ a, a ≠ 35 → a ≠ 37 → D1 a = D a := by
  have hm := h.1.1
  unfold ar
  by_cases hm0 : m = 0
  · subst hm0
    have nr : ¬ rng (0 : Int32) 0 ((0 : Nat) - 1) := fun z => by
      have := z.2
      rw [l_0] at this
      omega
    refine ⟨D, ?_, fun _ _ _ => rfl⟩
    unfold fn_213
    rw [fn_36_b h.2.1.2 hm, b01_f nr]
    rfl
  · have yr : rng (0 : Int32) 0 (m - 1) := ⟨by rw [l_0]; omega, by rw [l_0]; omega⟩
    obtain ⟨Dc, w1, w2⟩ := RS_0 h
    obtain ⟨D1, i1, i2⟩ := lp_213 h (by omega) hK hx K 0 100000 Dc _ (by omega) (by omega) fp_zero w2
    refine ⟨D1, ?_, i2⟩
    have i1' : fn_213_19 100000 (Int32.ofNat K) (Int32.ofNat x) 0 Dc = some (Int32.ofNat (bs (t0 D) (t1 D) K m x), D1) := i1
    unfold fn_213 am_F
    rw [fn_36_b h.2.1.2 hm, b01_t yr]
    dsimp only
    rw [if_pos (by decide), w1]
    dsimp only
    rw [if_neg hm0]
    exact i1'
end VR2
