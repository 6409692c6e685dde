/-! what both say of gates, balls, bins, notes -/
def vw (D : am_DD) (m n kp o : Nat) : Prop := (m ≤ 12 ∧ n ≤ 40 ∧ kp ≤ 60 ∧ o < 60) ∧ (D 322 1 = Int32.ofNat m ∧ D 8 0 = Int32.ofNat m) ∧ (D 322 3 = Int32.ofNat n ∧ D 19 0 = Int32.ofNat n) ∧ (D 322 10 = Int32.ofNat kp ∧ D 26 1 = Int32.ofNat kp ∧ D 26 0 = Int32.ofNat o) ∧
  (∀ g w, g < 12 → w < 7 → D 322 (11 + 7 * g + w) = D (1 + go w) (gj w g)) ∧ (∀ r w, r < n → w < 3 → D 322 (105 + 3 * r + w) = D (21 + 2 * w) r) ∧ (∀ q w, q < kp → w < 3 → D 322 (225 + 3 * q + w) = D (28 + 2 * w) ((o + q) % 60)) ∧
  (∀ g, g < 12 → ∃ e, e < 2 ∧ D 322 (11 + 7 * g) = Int32.ofNat e) ∧ (∀ g e, g < m → e < 2 → ∃ t, D 322 (13 + 7 * g + e) = Int32.ofNat t ∧ ((g < t ∧ t < m) ∨ (20 ≤ t ∧ t < 25))) ∧ (∀ r, r < n → ∃ g, g < m ∧ D 322 (105 + 3 * r) = Int32.ofNat g) ∧
  (∀ g, g < m → ∃ p, p ≤ 30 ∧ D 322 (12 + 7 * g) = Int32.ofNat p) ∧ (∀ q, q < kp → ∃ p, p ≤ 30 ∧ D 322 (227 + 3 * q) = Int32.ofNat p)
theorem vw_of {B : Nat} {D : am_DD} (h : st_ok B (D 322) (st_v D 1)) : ∃ m n kp o, vw D m n kp o := by
  have o1 := ok_i h
  have o2 := ok_g h
  obtain ⟨m, n, st, kp, o, hb, nb, r, e1, e2, gs, b, rs⟩ := h
  obtain ⟨g1, g2, g3, g4, g5, g6⟩ := gs
  have b40 := st_n40 b
  obtain ⟨b1, b2, b3, b4, b5⟩ := b
  obtain ⟨-, -, -, -, t1, t2, t3, t4, t5⟩ := rs
  have q1 : D 322 1 = D 8 0 := o1 1 (by omega)
  have q3 : D 322 3 = D 19 0 := o1 3 (by omega)
  have q10 : D 322 10 = D 26 1 := o1 10 (by omega)
  refine ⟨m, n, kp, o, ⟨g2, b40, t2, e2⟩, ⟨g1, q1.symm.trans g1⟩, ⟨b1, q3.symm.trans b1⟩, ⟨t1, q10.symm.trans t1, e1⟩, o2, fun r' w hr hw => ?_, fun q w hq hw => ?_, fun g hg => ?_, g5, b5, g4, t5⟩
  · have := r.2.2.2.1 r' w hr hw
    unfold st_v at this
    rw [show 1 + (20 + 2 * w) = 21 + 2 * w by omega] at this
    exact this
  · have := r.2.2.2.2 q w hq hw
    unfold st_v at this
    rw [show 1 + (27 + 2 * w) = 28 + 2 * w by omega] at this
    exact this
  · rcases g3 g hg with z | z
    · exact ⟨0, by omega, z⟩
    · exact ⟨1, by omega, z⟩
section VQ
variable {D D' : am_DD} {m n kp o : Nat}
theorem vw_side (h : vw D m n kp o) {g : Nat} (hg : g < 12) : rw_at (D 10) 12 (Int32.ofNat g) = D 322 (11 + 7 * g) := by
  rw [rw_at_nI hg (by decide)]
  exact (h.2.2.2.2.1 g 0 hg (by omega)).symm
theorem vw_tgt (h : vw D m n kp o) {g e : Nat} (hg : g < 12) (he : e < 2) : fn_73 (Int32.ofNat g) (Int32.ofNat e) D = some (D 322 (13 + 7 * g + e), D) := by
  have q := h.2.2.2.2.1 g (2 + e) hg (by omega)
  have j2 := gj_2 (g := g) he
  rw [j2.1, j2.2, show 11 + 7 * g + (2 + e) = 13 + 7 * g + e by omega] at q
  unfold fn_73
  rw [gx2, rw_at_nI (by omega) (by decide), q]
theorem vw_tgtM (hD : D' 322 = D 322) {g e : Nat} (hg : g < 12) (he : e < 2) : fn_48 (Int32.ofNat g) (2 + Int32.ofNat e) D' = some (D 322 (13 + 7 * g + e), D') := by
  have q2 : (2 : Int32) + Int32.ofNat e = Int32.ofNat (2 + e) := n_add 2 e
  rw [q2, fn_48_n (by omega), hD, show 11 + 7 * g + (2 + e) = 13 + 7 * g + e by omega]
theorem vw_sideM (hD : D' 322 = D 322) {g : Nat} (hg : g < 12) : fn_48 (Int32.ofNat g) 0 D' = some (D 322 (11 + 7 * g), D') := by
  have f : fn_48 (Int32.ofNat g) 0 D' = _ := fn_48_n (g := g) (w := 0) (by omega)
  rw [f, hD, Nat.add_zero]
theorem n_ile {a b : Nat} (ha : a < 2 ^ 31) (hb : b < 2 ^ 31) (h : a ≤ b) : Int32.ofNat a ≤ Int32.ofNat b := (n_le ha hb).mpr h
theorem n_nle {a b : Nat} (ha : a < 2 ^ 31) (hb : b < 2 ^ 31) (h : b < a) : ¬ Int32.ofNat a ≤ Int32.ofNat b := fun z => by
  have := (n_le ha hb).mp z
  omega
/-! bins -/
theorem lp_167 {b : Int32} (h : vw D m n kp o) (hD : D' 322 = D 322) : ∀ (c g N N' : Nat) (x : Int32), g + c = m → c < N → c < N' → ∃ z, fn_167_4 N b x (Int32.ofNat g) D = some (z, D) ∧ fn_170_4 N' (20 + b) x (Int32.ofNat g) D' = some (z, D') := by
  have hm := h.1.1
  have e1 := h.2.1.1
  have e2 := h.2.1.2
  intro c
  induction c with
  | zero =>
    intro g N N' x hg hN hN'
    obtain ⟨N, rfl⟩ : ∃ n', N = n' + 1 := ⟨N - 1, by omega⟩
    obtain ⟨N', rfl⟩ : ∃ n', N' = n' + 1 := ⟨N' - 1, by omega⟩
    refine ⟨x, ?_, ?_⟩
    · rw [fn_167_4, e2, if_pos (n_ile (by omega) (by omega) (by omega))]
    · rw [fn_170_4, hD, e1, if_pos (n_ile (by omega) (by omega) (by omega))]
  | succ c ih =>
    intro g N N' x hg hN hN'
    obtain ⟨N, rfl⟩ : ∃ n', N = n' + 1 := ⟨N - 1, by omega⟩
    obtain ⟨N', rfl⟩ : ∃ n', N' = n' + 1 := ⟨N' - 1, by omega⟩
    have f0 : fn_73 (Int32.ofNat g) 0 D = some (D 322 (13 + 7 * g + 0), D) := vw_tgt h (e := 0) (by omega) (by omega)
    have f1 : fn_73 (Int32.ofNat g) 1 D = some (D 322 (13 + 7 * g + 1), D) := vw_tgt h (e := 1) (by omega) (by omega)
    have g0 : fn_48 (Int32.ofNat g) 2 D' = some (D 322 (13 + 7 * g + 0), D') := vw_tgtM hD (e := 0) (by omega) (by omega)
    have g1 : fn_48 (Int32.ofNat g) 3 D' = some (D 322 (13 + 7 * g + 1), D') := vw_tgtM hD (e := 1) (by omega) (by omega)
    rw [fn_167_4, fn_170_4, hD, e2, e1, if_neg (n_nle (by omega) (by omega) (by omega)), if_neg (n_nle (by omega) (by omega) (by omega)), f0, g0]
    dsimp only
    rw [f1, g1]
    dsimp only
    rw [nI_up]
    by_cases c0 : D 322 (13 + 7 * g + 0) = 20 + b
    · rw [if_neg (not_not_intro c0), if_neg (not_not_intro c0)]
      by_cases c1 : D 322 (13 + 7 * g + 1) = 20 + b
      · rw [if_neg (not_not_intro c1), if_neg (not_not_intro c1), Int32.add_assoc]
        exact ih _ _ _ _ (by omega) (by omega) (by omega)
      · rw [if_pos c1, if_pos c1, Int32.add_assoc]
        exact ih _ _ _ _ (by omega) (by omega) (by omega)
    · rw [if_pos c0, if_pos c0]
      by_cases c1 : D 322 (13 + 7 * g + 1) = 20 + b
      · rw [if_neg (not_not_intro c1), if_neg (not_not_intro c1), Int32.add_assoc]
        exact ih _ _ _ _ (by omega) (by omega) (by omega)
      · rw [if_pos c1, if_pos c1, Int32.add_assoc]
        exact ih _ _ _ _ (by omega) (by omega) (by omega)
/-! balls at a gate -/
theorem rx {r w : Nat} : ((105 : Int32) + (3 * Int32.ofNat r)) + Int32.ofNat w = Int32.ofNat (105 + 3 * r + w) := by
  have h1 : (3 : Int32) * Int32.ofNat r = Int32.ofNat (3 * r) := n_mul 3 r
  have h2 : (105 : Int32) + Int32.ofNat (3 * r) = Int32.ofNat (105 + 3 * r) := n_add 105 (3 * r)
  rw [h1, h2, n_add]
theorem fn_158_n {r w : Nat} {D : am_DD} (h : 105 + 3 * r + w < 405) : fn_158 (Int32.ofNat r) (Int32.ofNat w) D = some (D 322 (105 + 3 * r + w), D) := by
  unfold fn_158
  rw [rx, if_neg (n_bad (by decide) h), c_ofNat (by omega)]
theorem nx {r w : Nat} : ((225 : Int32) + (3 * Int32.ofNat r)) + Int32.ofNat w = Int32.ofNat (225 + 3 * r + w) := by
  have h1 : (3 : Int32) * Int32.ofNat r = Int32.ofNat (3 * r) := n_mul 3 r
  have h2 : (225 : Int32) + Int32.ofNat (3 * r) = Int32.ofNat (225 + 3 * r) := n_add 225 (3 * r)
  rw [h1, h2, n_add]
theorem fn_180_n {r w : Nat} {D : am_DD} (h : 225 + 3 * r + w < 405) : fn_180 (Int32.ofNat r) (Int32.ofNat w) D = some (D 322 (225 + 3 * r + w), D) := by
  unfold fn_180
  rw [nx, if_neg (n_bad (by decide) h), c_ofNat (by omega)]
theorem vw_place (h : vw D m n kp o) {r : Nat} (hr : r < n) : rw_at (D 21) 40 (Int32.ofNat r) = D 322 (105 + 3 * r) := by
  have := h.1.2.1
  rw [rw_at_nI (by omega) (by decide)]
  exact (h.2.2.2.2.2.1 r 0 hr (by omega)).symm
theorem lp_155 {b : Int32} (h : vw D m n kp o) (hD : D' 322 = D 322) : ∀ (c r N N' : Nat) (x : Int32), r + c = n → c < N → c < N' → ∃ z, fn_155_4 N b x (Int32.ofNat r) D = some (z, D) ∧ fn_159_4 N' b x (Int32.ofNat r) D' = some (z, D') := by
  have hn := h.1.2.1
  have e1 := h.2.2.1.1
  have e2 := h.2.2.1.2
  intro c
  induction c with
  | zero =>
    intro g N N' x hg hN hN'
    obtain ⟨N, rfl⟩ : ∃ n', N = n' + 1 := ⟨N - 1, by omega⟩
    obtain ⟨N', rfl⟩ : ∃ n', N' = n' + 1 := ⟨N' - 1, by omega⟩
    refine ⟨x, ?_, ?_⟩
    · rw [fn_155_4, e2, if_pos (n_ile (by omega) (by omega) (by omega))]
    · rw [fn_159_4, hD, e1, if_pos (n_ile (by omega) (by omega) (by omega))]
  | succ c ih =>
    intro g N N' x hg hN hN'
    obtain ⟨N, rfl⟩ : ∃ n', N = n' + 1 := ⟨N - 1, by omega⟩
    obtain ⟨N', rfl⟩ : ∃ n', N' = n' + 1 := ⟨N' - 1, by omega⟩
    have g0 : fn_158 (Int32.ofNat g) 0 D' = some (D 322 (105 + 3 * g), D') := by
      have f : fn_158 (Int32.ofNat g) 0 D' = _ := fn_158_n (r := g) (w := 0) (by omega)
      rw [f, hD, Nat.add_zero]
    rw [fn_155_4, fn_159_4, hD, e2, e1, if_neg (n_nle (by omega) (by omega) (by omega)), if_neg (n_nle (by omega) (by omega) (by omega)), g0, vw_place h (by omega)]
    dsimp only
    rw [nI_up]
    by_cases c1 : D 322 (105 + 3 * g) = b
    · rw [if_neg (not_not_intro c1), if_neg (not_not_intro c1)]
      exact ih _ _ _ _ (by omega) (by omega) (by omega)
    · rw [if_pos c1, if_pos c1]
      exact ih _ _ _ _ (by omega) (by omega) (by omega)
/-! where a ball would come to lie -/
theorem lp_161 (h : vw D m n kp o) (hD : D' 322 = D 322) : ∀ (c x t N N' : Nat), x + c = 12 → c < N → c < N' → ((x ≤ t ∧ t < m) ∨ (20 ≤ t ∧ t < 25)) → ∃ z w, fn_161_4 N (Int32.ofNat t) (Int32.ofNat x) D = some (z, D) ∧ fn_162_4 N (Int32.ofNat t) (Int32.ofNat x) D = some (w, D) ∧ fn_165_5 N' 0 (Int32.ofNat x) (Int32.ofNat t) D' = some (z, D') ∧ fn_165_5 N' 1 (Int32.ofNat x) (Int32.ofNat t) D' = some (w, D') := by
  have hm := h.1.1
  have e2 := h.2.1.2
  have last : ∀ (x t N N' : Nat), x ≤ 12 → 0 < N → 0 < N' → (20 ≤ t ∧ t < 25) → ∃ z w, fn_161_4 N (Int32.ofNat t) (Int32.ofNat x) D = some (z, D) ∧ fn_162_4 N (Int32.ofNat t) (Int32.ofNat x) D = some (w, D) ∧ fn_165_5 N' 0 (Int32.ofNat x) (Int32.ofNat t) D' = some (z, D') ∧ fn_165_5 N' 1 (Int32.ofNat x) (Int32.ofNat t) D' = some (w, D') := by
    intro x t N N' hx hN hN' ht
    obtain ⟨N, rfl⟩ : ∃ n', N = n' + 1 := ⟨N - 1, by omega⟩
    obtain ⟨N', rfl⟩ : ∃ n', N' = n' + 1 := ⟨N' - 1, by omega⟩
    have nr : ¬ rng (Int32.ofNat t) 0 (m - 1) := fun z => by
      have := rng_lt (by omega) z
      omega
    have q20 : (20 : Int32) ≤ Int32.ofNat t := n_ile (a := 20) (by omega) (by omega) ht.1
    refine ⟨Int32.ofNat x, Int32.ofNat t - 20, ?_, ?_, ?_, ?_⟩
    · rw [fn_161_4, fn_36_b e2 hm, b01_f nr]
      dsimp only
      rw [if_pos rfl]
      split <;> rfl
    · rw [fn_162_4, fn_36_b e2 hm, b01_f nr]
      dsimp only
      rw [if_pos rfl]
      split <;> rfl
    · rw [fn_165_5, if_pos q20, if_pos rfl]
    · rw [fn_165_5, if_pos q20, if_neg (by decide)]
  intro c
  induction c with
  | zero =>
    intro x t N N' hx hN hN' ht
    exact last x t N N' (by omega) (by omega) (by omega) (by omega)
  | succ c ih =>
    intro x t N N' hx hN hN' ht
    rcases ht with ht | ht
    · obtain ⟨N, rfl⟩ : ∃ n', N = n' + 1 := ⟨N - 1, by omega⟩
      obtain ⟨N', rfl⟩ : ∃ n', N' = n' + 1 := ⟨N' - 1, by omega⟩
      obtain ⟨e, he, es⟩ := h.2.2.2.2.2.2.2.1 t (by omega)
      obtain ⟨t', ts, tb⟩ := h.2.2.2.2.2.2.2.2.1 t e ht.2 he
      have r : rng (Int32.ofNat t) 0 (m - 1) := by
        rw [rng, t_ofNat (by omega)]
        omega
      have n12 : ¬ (12 : Int32) ≤ Int32.ofNat x := n_nle (a := 12) (by omega) (by omega) (by omega)
      have n20 : ¬ (20 : Int32) ≤ Int32.ofNat t := n_nle (a := 20) (by omega) (by omega) (by omega)
      obtain ⟨z, w, i1, i2, i3, i4⟩ := ih (x + 1) t' N N' (by omega) (by omega) (by omega) (by omega)
      refine ⟨z, w, ?_, ?_, ?_, ?_⟩
      · rw [fn_161_4, if_neg n12, fn_36_b e2 hm, b01_t r]
        dsimp only
        rw [if_neg (by decide), vw_side h (by omega), es, vw_tgt h (by omega) he]
        dsimp only
        rw [ts, nI_up]
        exact i1
      · rw [fn_162_4, if_neg n12, fn_36_b e2 hm, b01_t r]
        dsimp only
        rw [if_neg (by decide), vw_side h (by omega), es, vw_tgt h (by omega) he]
        dsimp only
        rw [ts, nI_up]
        exact i2
      · rw [fn_165_5, if_neg n20, vw_sideM hD (by omega), es]
        dsimp only
        rw [vw_tgtM hD (by omega) he]
        dsimp only
        rw [ts, nI_up]
        exact i3
      · rw [fn_165_5, if_neg n20, vw_sideM hD (by omega), es]
        dsimp only
        rw [vw_tgtM hD (by omega) he]
        dsimp only
        rw [ts, nI_up]
        exact i4
    · exact last x t N N' (by omega) (by omega) (by omega) ht
/-! notes -/
theorem fn_71_n (h : vw D m n kp o) {q : Nat} (hq : q < kp + 1) : fn_71 (Int32.ofNat q) D = some (Int32.ofNat ((o + q) % 60), D) := by
  have := h.1
  unfold fn_71
  rw [h.2.2.2.1.2.2, n_add]
  have := n_mod (a := o + q) (b := 60) (by omega) (by omega) (by omega)
  rw [← this]
  rfl
theorem vw_n0 (h : vw D m n kp o) {q : Nat} (hq : q < kp) : fn_175 (Int32.ofNat q) D = some (D 322 (225 + 3 * q + 0), D) := by
  unfold fn_175
  rw [fn_71_n h (by omega)]
  dsimp only
  rw [rw_at_nI (Nat.mod_lt _ (by decide)) (by decide), h.2.2.2.2.2.2.1 q 0 hq (by omega)]
theorem vw_n1 (h : vw D m n kp o) {q : Nat} (hq : q < kp) : fn_176 (Int32.ofNat q) D = some (D 322 (225 + 3 * q + 1), D) := by
  unfold fn_176
  rw [fn_71_n h (by omega)]
  dsimp only
  rw [rw_at_nI (Nat.mod_lt _ (by decide)) (by decide), h.2.2.2.2.2.2.1 q 1 hq (by omega)]
theorem vw_n2 (h : vw D m n kp o) {q : Nat} (hq : q < kp) : fn_177 (Int32.ofNat q) D = some (D 322 (225 + 3 * q + 2), D) := by
  unfold fn_177
  rw [fn_71_n h (by omega)]
  dsimp only
  rw [rw_at_nI (Nat.mod_lt _ (by decide)) (by decide), h.2.2.2.2.2.2.1 q 2 hq (by omega)]
theorem vw_M {q : Nat} (w : Nat) (hD : D' 322 = D 322) (hq : q < 60) (hw : w < 3) : fn_180 (Int32.ofNat q) (Int32.ofNat w) D' = some (D 322 (225 + 3 * q + w), D') := by
  rw [fn_180_n (by omega), hD]
theorem lp_182 {b : Int32} (h : vw D m n kp o) (hD : D' 322 = D 322) : ∀ (c q N N' : Nat) (x : Int32), q + c = kp → c < N → c < N' → ∃ z, fn_182_4 N b x (Int32.ofNat q) D = some (z, D) ∧ fn_185_4 N' b x (Int32.ofNat q) D' = some (z, D') := by
  have hk := h.1.2.2.1
  have e1 := h.2.2.2.1.1
  have e2 := h.2.2.2.1.2.1
  intro c
  induction c with
  | zero =>
    intro g N N' x hg hN hN'
    obtain ⟨N, rfl⟩ : ∃ n', N = n' + 1 := ⟨N - 1, by omega⟩
    obtain ⟨N', rfl⟩ : ∃ n', N' = n' + 1 := ⟨N' - 1, by omega⟩
    refine ⟨x, ?_, ?_⟩
    · rw [fn_182_4, e2, if_pos (n_ile (by omega) (by omega) (by omega))]
    · rw [fn_185_4, hD, e1, if_pos (n_ile (by omega) (by omega) (by omega))]
  | succ c ih =>
    intro g N N' x hg hN hN'
    obtain ⟨N, rfl⟩ : ∃ n', N = n' + 1 := ⟨N - 1, by omega⟩
    obtain ⟨N', rfl⟩ : ∃ n', N' = n' + 1 := ⟨N' - 1, by omega⟩
    have g0 : fn_180 (Int32.ofNat g) 0 D' = some (D 322 (225 + 3 * g + 0), D') := vw_M 0 hD (by omega) (by omega)
    have g2 : fn_180 (Int32.ofNat g) 2 D' = some (D 322 (225 + 3 * g + 2), D') := vw_M 2 hD (by omega) (by omega)
    rw [fn_182_4, fn_185_4, hD, e2, e1, if_neg (n_nle (by omega) (by omega) (by omega)), if_neg (n_nle (by omega) (by omega) (by omega)), vw_n0 h (by omega), g0]
    dsimp only
    rw [vw_n2 h (by omega), g2]
    dsimp only
    rw [nI_up, Int32.or_zero]
    by_cases c1 : D 322 (225 + 3 * g + 0) = b
    · rw [if_neg (not_not_intro c1), if_neg (not_not_intro c1)]
      exact ih _ _ _ _ (by omega) (by omega) (by omega)
    · rw [if_pos c1, if_pos c1]
      exact ih _ _ _ _ (by omega) (by omega) (by omega)
end VQ
