/-! the music's counts: 21 -/
theorem dc_congr {f g : Nat → Nat} : ∀ n, (∀ i, i < n → f i = g i) → dc f n = dc g n := by
  intro n
  induction n with
  | zero => intro _; rfl
  | succ n ih =>
    intro h
    have e1 : dc f (n + 1) = dc f n + (if ∀ j, j < n → f j ≠ f n then 1 else 0) := rfl
    have e2 : dc g (n + 1) = dc g n + (if ∀ j, j < n → g j ≠ g n then 1 else 0) := rfl
    rw [e1, e2, ih (fun i hi => h i (by omega))]
    by_cases z : ∀ j, j < n → f j ≠ f n
    · rw [if_pos z, if_pos (fun j hj => by rw [← h j (by omega), ← h n (by omega)]; exact z j hj)]
    · rw [if_neg z, if_neg (fun w => z (fun j hj => by rw [h j (by omega), h n (by omega)]; exact w j hj))]
theorem mx_congr {f g : Nat → Nat} : ∀ n, (∀ i, i < n → f i = g i) → mx f n = mx g n := by
  intro n
  induction n with
  | zero => intro _; rfl
  | succ n ih =>
    intro h
    unfold mx
    rw [ih (fun i hi => h i (by omega)), h n (by omega)]
section VK4
variable {D : am_DD} {m n kp o : Nat}
/-- the class's chords: w of them, G -/
theorem fn_191_n (h : vw D m n kp o) (asc : ∀ q q' q2, q ≤ q' → q' ≤ q2 → q2 < kp → be D q = be D q2 → be D q' = be D q) : ∃ D1 w G, fn_191 D = some (0, D1) ∧ (∀ a, a ≠ 44 → a ≠ 40 → D1 a = D a) ∧ (∀ j, j ≠ 3 → D1 40 j = D 40 j) ∧ D1 40 3 = Int32.ofNat w ∧ w ≤ 60 ∧ (∀ i, i < w → D1 44 i = Int32.ofNat (G i) ∧ G i < 2 ^ 31) ∧ dc (ch D kp) kp = dc G w ∧ mx (fun q => pb 31 (ch D kp q)) kp = mx (fun i => pb 31 (G i)) w := by
  have hk := h.1.2.2.1
  have fA : ∀ a, a ≠ 44 → a ≠ 40 → am_upd D 40 3 0 a = D a := fun a _ a2 => u_row a2
  have f4 : ∀ j, j ≠ 3 → am_upd D 40 3 0 40 j = D 40 j := fun j hj => u_ne (fun z => hj z.2)
  by_cases hz : kp = 0
  · subst hz
    refine ⟨am_upd D 40 3 0, 0, fun _ => 0, ?_, fA, f4, u_self _ _ _ _, by omega, fun i hi => by omega, rfl, rfl⟩
    unfold fn_191 am_F
    show fn_191_9 (99999 + 1) 0 0 (am_upd D 40 3 0) = _
    rw [fn_191_9, u_ne (show ¬ (26 = 40 ∧ 1 = 3) by omega), h.2.2.2.1.2.1, if_pos (by decide)]
  · obtain ⟨D1, i1, i2, i5, i3, i4⟩ := lp_191 h asc (kp - 1) 0 100000 (am_upd D 40 3 0) (by omega) (by omega) fA f4 (u_self _ _ _ _) (fun i hi => by omega)
    have rl := rn_le D (kp - 1)
    have hG : ∀ q, q < kp → ch D kp q = (D1 44 (rn D q)).toNatClampNeg := fun q hq => by rw [i4 q hq, c_ofNat (ch_lt h q)]
    refine ⟨D1, rn D (kp - 1) + 1, fun i => (D1 44 i).toNatClampNeg, i1, i2, i5, i3, by omega, fun i hi => ?_, ?_, ?_⟩
    · obtain ⟨q', a, b⟩ := rn_on (rn := rn D) rfl (rn_step D) (kp - 1) i (by omega)
      have := i4 q' (by omega)
      rw [b] at this
      show D1 44 i = Int32.ofNat (D1 44 i).toNatClampNeg ∧ (D1 44 i).toNatClampNeg < 2 ^ 31
      rw [this, c_ofNat (ch_lt h q')]
      exact ⟨rfl, ch_lt h q'⟩
    · have e := dc_rn (rn := rn D) (G := fun i => (D1 44 i).toNatClampNeg) rfl (rn_step D) (kp - 1)
      rw [show kp - 1 + 1 = kp by omega] at e
      rw [← e]
      exact dc_congr kp hG
    · have e := mx_rn (rn := rn D) (G := fun i => pb 31 ((D1 44 i).toNatClampNeg)) rfl (rn_step D) (kp - 1)
      rw [show kp - 1 + 1 = kp by omega] at e
      rw [← e]
      exact mx_congr kp (fun q hq => by rw [hG q hq])
theorem lp_192 {D1 : am_DD} {w i : Nat} {G : Nat → Nat} (hw : w ≤ 60) (hG : ∀ i, i < w → D1 44 i = Int32.ofNat (G i) ∧ G i < 2 ^ 31) (hi : i < w) : ∀ (c j N : Nat), j + c = i → c < N → fn_192_2 N (Int32.ofNat i) (Int32.ofNat j) D1 = some (b01 (∀ x, x < i → j ≤ x → G x ≠ G i), D1) := by
  intro c
  induction c with
  | zero =>
    intro j N hj hN
    obtain ⟨N, rfl⟩ : ∃ n', N = n' + 1 := ⟨N - 1, by omega⟩
    rw [fn_192_2, if_pos (n_ile (by omega) (by omega) (by omega)), b01_t (fun x a b => by omega)]
  | succ c ih =>
    intro j N hj hN
    obtain ⟨N, rfl⟩ : ∃ n', N = n' + 1 := ⟨N - 1, by omega⟩
    rw [fn_192_2, if_neg (n_nle (by omega) (by omega) (by omega)), rw_at_nI (show j < 60 by omega) (by decide), rw_at_nI (show i < 60 by omega) (by decide), (hG j (by omega)).1, (hG i hi).1, nI_up]
    by_cases z : G j = G i
    · rw [if_neg (not_not_intro (by rw [z])), b01_f (fun w => w j (by omega) (Nat.le_refl _) z)]
    · rw [if_pos (fun w => z (n_inj (hG j (by omega)).2 (hG i hi).2 w)), ih (j + 1) N (by omega) (by omega)]
      refine congrArg (fun z => some (z, D1)) (b01_congr ⟨fun w x a b => ?_, fun w x a b => w x a (by omega)⟩)
      by_cases e : x = j
      · rw [e]; exact z
      · exact w x a (by omega)
theorem lp_193 {D1 : am_DD} {w : Nat} {G : Nat → Nat} (hw : w ≤ 60) (h3 : D1 40 3 = Int32.ofNat w) (hG : ∀ i, i < w → D1 44 i = Int32.ofNat (G i) ∧ G i < 2 ^ 31) : ∀ (c i N : Nat), i + c = w → c < N → fn_193_8 N (Int32.ofNat (dc G i)) (Int32.ofNat i) D1 = some (Int32.ofNat (dc G w), D1) := by
  intro c
  induction c with
  | zero =>
    intro i N hi hN
    obtain ⟨N, rfl⟩ : ∃ n', N = n' + 1 := ⟨N - 1, by omega⟩
    have : i = w := by omega
    subst this
    rw [fn_193_8, h3, if_pos (n_ile (by omega) (by omega) (Nat.le_refl _))]
  | succ c ih =>
    intro i N hi hN
    obtain ⟨N, rfl⟩ : ∃ n', N = n' + 1 := ⟨N - 1, by omega⟩
    have l := lp_192 hw hG (show i < w by omega) i 0 100000 (by omega) (by omega)
    have l' : fn_192 (Int32.ofNat i) D1 = some (b01 (∀ x, x < i → 0 ≤ x → G x ≠ G i), D1) := l
    have e : dc G (i + 1) = dc G i + (if ∀ j, j < i → G j ≠ G i then 1 else 0) := rfl
    have k := ih (i + 1) N (by omega) (by omega)
    rw [fn_193_8, h3, if_neg (n_nle (by omega) (by omega) (by omega)), l']
    dsimp only
    rw [nI_up]
    by_cases z : ∀ j, j < i → G j ≠ G i
    · rw [b01_t (fun x a _ => z x a), if_neg (by decide), nI_up]
      rw [e, if_pos z] at k
      exact k
    · rw [b01_f (fun w => z (fun x a => w x a (Nat.zero_le _))), if_pos rfl, Int32.add_zero]
      rw [e, if_neg z, Nat.add_zero] at k
      exact k
theorem lp_195 {D1 : am_DD} {w : Nat} {G : Nat → Nat} (hw : w ≤ 60) (h3 : D1 40 3 = Int32.ofNat w) (hG : ∀ i, i < w → D1 44 i = Int32.ofNat (G i) ∧ G i < 2 ^ 31) : ∀ (c i N : Nat), i + c = w → c < N → fn_195_8 N (Int32.ofNat (mx (fun i => pb 31 (G i)) i)) (Int32.ofNat i) D1 = some (Int32.ofNat (mx (fun i => pb 31 (G i)) w), D1) := by
  intro c
  induction c with
  | zero =>
    intro i N hi hN
    obtain ⟨N, rfl⟩ : ∃ n', N = n' + 1 := ⟨N - 1, by omega⟩
    have : i = w := by omega
    subst this
    rw [fn_195_8, h3, if_pos (n_ile (by omega) (by omega) (Nat.le_refl _))]
  | succ c ih =>
    intro i N hi hN
    obtain ⟨N, rfl⟩ : ∃ n', N = n' + 1 := ⟨N - 1, by omega⟩
    have e : mx (fun i => pb 31 (G i)) (i + 1) = if mx (fun i => pb 31 (G i)) i < pb 31 (G i) then pb 31 (G i) else mx (fun i => pb 31 (G i)) i := rfl
    have k := ih (i + 1) N (by omega) (by omega)
    have m1 := mx_le (f := fun i => pb 31 (G i)) (M := 31) (fun q => pb_le 31 _) i
    have m2 := pb_le 31 (G i)
    rw [fn_195_8, h3, if_neg (n_nle (by omega) (by omega) (by omega)), rw_at_nI (show i < 60 by omega) (by decide), (hG i (by omega)).1, fn_194_n (hG i (by omega)).2]
    dsimp only
    rw [nI_up]
    by_cases z : mx (fun i => pb 31 (G i)) i < pb 31 (G i)
    · rw [if_pos ((n_lt (by omega) (by omega)).mpr z)]
      rw [e, if_pos z] at k
      exact k
    · rw [if_neg (fun w => z ((n_lt (by omega) (by omega)).mp w))]
      rw [e, if_neg z] at k
      exact k
end VK4
/-- the end of a call about the music -/
theorem in_qm {hm : Nat → Int32} {k : Nat} {C : Option (Int32 × Nat × am_DD)} {M : am_DD → Option (Int32 × am_DD)} {D D1 : am_DD} {y : Int32} (hi : in_ok k D) (hC : C = some (y, 0, D1)) (h1 : ∀ a, a ≠ 40 → a ≠ 42 → a ≠ 44 → D1 a = D a) (h40 : ∀ j, j ≠ 3 → D1 40 j = D 40 j) (hM : M (am_upd D1 329 0 y) = some (y, am_upd (am_upd D1 329 0 y) 321 7 0)) : in_wr hm k C M := by
  refine in_q hi hC (fun a j hs => ?_) hM ((in_agr.rf _).upd (by decide)) (u_self _ _ _ _) (by rw [u_ne (by omega), u_self])
  have q42 : a ≠ 42 := fun q => by subst q; simp [in_scr] at hs
  have q44 : a ≠ 44 := fun q => by subst q; simp [in_scr] at hs
  by_cases q40 : a = 40
  · subst q40
    exact h40 j (fun q => by subst q; exact absurd hs (by decide))
  · rw [h1 a q40 q42 q44]
set_option maxHeartbeats 2000000 in
theorem op_21 {k : Nat} {D : am_DD} (a : Int32) (hk : k < 512) (hi : in_ok k D) : in_wr (hmf 1 0 0) k (fn_197 a D) (fn_206 a) := by
  obtain ⟨m, n, kp, o, h⟩ := vw_of hi.1
  have hk60 := h.1.2.2.1
  have asc : ∀ q q' q2, q ≤ q' → q' ≤ q2 → q2 < kp → be D q = be D q2 → be D q' = be D q := fun q q' q2 h1 h2 h3 e => be_asc h hk hi.1 h1 h2 h3 e
  by_cases h1 : rng a (0 : Int32).toInt (6 : Int32).toInt
  · obtain ⟨x, rfl, hx, -⟩ := rng_nat (a := a) (hi := 6) h1
    -- what the reference does once the letter is known
    have R : ∀ (D1 : am_DD) (y : Int32), D1 322 = D 322 → (am_upd (am_upd D1 329 0 y) 321 7 0) 322 = D 322 := fun D1 y hD => by rw [u_row (by omega), u_row (by omega), hD]
    obtain rfl | rfl | rfl | rfl | rfl | rfl | rfl : x = 0 ∨ x = 1 ∨ x = 2 ∨ x = 3 ∨ x = 4 ∨ x = 5 ∨ x = 6 := by omega
    · refine in_qm (y := D 26 1) (D1 := D) hi rfl (fun _ _ _ _ => rfl) (fun _ _ => rfl) ?_
      unfold fn_206
      simp only [fn_26_b, b01_t h1, i10, not_false_eq_true, if_true, if_false, fn_29_0]
      rw [if_pos (by decide), R D _ rfl, h.2.2.2.1.1, h.2.2.2.1.2.1]
    · obtain ⟨Dc, c1, c2, c3⟩ := fn_188_n h
      obtain ⟨y, z1, -⟩ := lp_189 h c3 (D' := D) rfl 31 0 100000 100000 0 (by omega) (by omega) (by omega)
      obtain ⟨y', z2, z3⟩ := lp_189 h c3 (R Dc y (c2 322 (by omega))) 31 0 100000 100000 0 (by omega) (by omega) (by omega)
      have e := (Prod.mk.inj (Option.some.inj (z1.symm.trans z2))).1
      have z1' : fn_189_8 100000 0 0 Dc = some (y, Dc) := z1
      have z3' : fn_200_4 100000 0 0 (am_upd (am_upd Dc 329 0 y) 321 7 0) = some (y, am_upd (am_upd Dc 329 0 y) 321 7 0) := by
        rw [← e] at z3
        exact z3
      refine in_qm (y := y) (D1 := Dc) hi ?_ (fun a _ h42 _ => c2 a h42) (fun j _ => by rw [c2 40 (by omega)]) ?_
      · unfold fn_197 fn_189 am_F
        rw [if_neg (by decide), if_pos (by decide), c1]
        dsimp only
        rw [z1']
      · unfold fn_206 fn_200 am_F
        simp only [fn_26_b, b01_t h1, i10, not_false_eq_true, if_true, if_false, fn_29_0]
        rw [if_neg (by decide), if_pos (by decide), z3']
    · by_cases hz : kp = 0
      · subst hz
        refine in_qm (y := -1) (D1 := D) hi ?_ (fun _ _ _ _ => rfl) (fun _ _ => rfl) ?_
        · unfold fn_197 fn_190
          have n0 : Int32.ofNat 0 = 0 := rfl
          rw [if_neg (by decide), if_neg (by decide), if_pos (by decide), h.2.2.2.1.2.1, if_neg (not_not_intro n0)]
        · have none0 : ∀ (D' : am_DD), D' 322 = D 322 → ∀ (c p b N : Nat), p + c = 31 → b < 31 → c < N → fn_201_4 N (Int32.ofNat b) (Int32.ofNat p) D' = some (-1, D') := by
            intro D' hD c
            have n0 : Int32.ofNat 0 = 0 := rfl
            induction c with
            | zero =>
              intro p b N hp hb hN
              obtain ⟨N, rfl⟩ : ∃ n', N = n' + 1 := ⟨N - 1, by omega⟩
              have q : (31 : Int32) ≤ Int32.ofNat p := n_ile (a := 31) (by omega) (by omega) (by omega)
              rw [fn_201_4, if_pos q, hD, h.2.2.2.1.1, if_neg (not_not_intro n0)]
            | succ c ih =>
              intro p b N hp hb hN
              obtain ⟨N, rfl⟩ : ∃ n', N = n' + 1 := ⟨N - 1, by omega⟩
              have q : ¬ (31 : Int32) ≤ Int32.ofNat p := n_nle (a := 31) (by omega) (by omega) (by omega)
              rw [fn_201_4, if_neg q, fn_199_n h hD (show p < 31 by omega)]
              dsimp only
              rw [fn_199_n h hD hb, nI_up]
              dsimp only
              split
              · exact ih (p + 1) b N (by omega) hb (by omega)
              · exact ih (p + 1) p N (by omega) (by omega) (by omega)
          have z3' : fn_201_4 100000 0 1 (am_upd (am_upd D 329 0 (-1)) 321 7 0) = _ := none0 _ (R D _ rfl) 30 1 0 100000 (by omega) (by omega) (by omega)
          unfold fn_206 fn_201 am_F
          simp only [fn_26_b, b01_t h1, i10, not_false_eq_true, if_true, if_false, fn_29_0]
          rw [if_neg (by decide), if_neg (by decide), if_pos (by decide), z3']
      · have nk : ¬ Int32.ofNat kp = 0 := fun z => hz (n_inj (b := 0) (by omega) (by omega) z)
        obtain ⟨Dc, c1, c2, c3⟩ := fn_188_n h
        obtain ⟨y, z1, -⟩ := lp_190 h c3 (D' := D) rfl (by omega) 30 1 0 100000 100000 (by omega) (by omega) (by omega) (by omega)
        obtain ⟨y', z2, z3⟩ := lp_190 h c3 (R Dc y (c2 322 (by omega))) (by omega) 30 1 0 100000 100000 (by omega) (by omega) (by omega) (by omega)
        have e := (Prod.mk.inj (Option.some.inj (z1.symm.trans z2))).1
        have z1' : fn_190_20 100000 0 1 Dc = some (y, Dc) := z1
        have z3' : fn_201_4 100000 0 1 (am_upd (am_upd Dc 329 0 y) 321 7 0) = some (y, am_upd (am_upd Dc 329 0 y) 321 7 0) := by
          rw [← e] at z3
          exact z3
        refine in_qm (y := y) (D1 := Dc) hi ?_ (fun a _ h42 _ => c2 a h42) (fun j _ => by rw [c2 40 (by omega)]) ?_
        · unfold fn_197 fn_190 am_F
          rw [if_neg (by decide), if_neg (by decide), if_pos (by decide), h.2.2.2.1.2.1, if_pos nk, c1]
          dsimp only
          rw [z1']
        · unfold fn_206 fn_201 am_F
          simp only [fn_26_b, b01_t h1, i10, not_false_eq_true, if_true, if_false, fn_29_0]
          rw [if_neg (by decide), if_neg (by decide), if_pos (by decide), z3']
    · obtain ⟨D1, w, G, g1, g2, g3, g4, g5, g6, g7, g8⟩ := fn_191_n h asc
      have l : fn_193_8 100000 0 0 D1 = some (Int32.ofNat (dc G w), D1) := lp_193 g5 g4 g6 w 0 100000 (by omega) (by omega)
      refine in_qm (y := Int32.ofNat (dc (ch D kp) kp)) (D1 := D1) hi ?_ (fun a h40 _ h44 => g2 a h44 h40) g3 ?_
      · unfold fn_197 fn_193 am_F
        rw [if_neg (by decide), if_neg (by decide), if_neg (by decide), if_pos (by decide), g1]
        dsimp only
        rw [l, g7]
      · unfold fn_206
        simp only [fn_26_b, b01_t h1, i10, not_false_eq_true, if_true, if_false, fn_29_0]
        rw [if_neg (by decide), if_neg (by decide), if_neg (by decide), if_pos (by decide), fn_203_n h (R D1 _ (g2 322 (by omega) (by omega)))]
    · obtain ⟨D1, w, G, g1, g2, g3, g4, g5, g6, g7, g8⟩ := fn_191_n h asc
      have l : fn_195_8 100000 0 0 D1 = some (Int32.ofNat (mx (fun i => pb 31 (G i)) w), D1) := lp_195 g5 g4 g6 w 0 100000 (by omega) (by omega)
      refine in_qm (y := Int32.ofNat (mx (fun q => pb 31 (ch D kp q)) kp)) (D1 := D1) hi ?_ (fun a h40 _ h44 => g2 a h44 h40) g3 ?_
      · unfold fn_197 fn_195 am_F
        rw [if_neg (by decide), if_neg (by decide), if_neg (by decide), if_neg (by decide), if_pos (by decide), g1]
        dsimp only
        rw [l, g8]
      · unfold fn_206
        simp only [fn_26_b, b01_t h1, i10, not_false_eq_true, if_true, if_false, fn_29_0]
        rw [if_neg (by decide), if_neg (by decide), if_neg (by decide), if_neg (by decide), if_pos (by decide), fn_204_n h (R D1 _ (g2 322 (by omega) (by omega)))]
    · have q : ∀ D' : am_DD, D' 322 = D 322 → ∃ y, fn_196_4 100000 1 0 1 D = some (y, D) ∧ fn_205_4 100000 1 0 1 D' = some (y, D') := fun D' hD => by
        by_cases hz : kp = 0
        · subst hz
          refine ⟨0, ?_, ?_⟩
          · show fn_196_4 (99999 + 1) 1 0 1 D = _
            rw [fn_196_4, h.2.2.2.1.2.1, if_pos (by decide)]
          · show fn_205_4 (99999 + 1) 1 0 1 D' = _
            rw [fn_205_4, hD, h.2.2.2.1.1, if_pos (by decide)]
        · exact lp_196 h hD (Or.inl ⟨rfl, rfl⟩) (kp - 1) 1 100000 100000 0 (by omega) (by omega) (by omega) (by omega)
      obtain ⟨y, z1, -⟩ := q D rfl
      obtain ⟨y', z2, z3⟩ := q _ (R D y rfl)
      have e := (Prod.mk.inj (Option.some.inj (z1.symm.trans z2))).1
      rw [← e] at z3
      have n5 : Int32.ofNat 5 = 5 := rfl
      refine in_qm (y := y) (D1 := D) hi ?_ (fun _ _ _ _ => rfl) (fun _ _ => rfl) ?_
      · unfold fn_197 fn_196 am_F
        rw [if_neg (by decide), if_neg (by decide), if_neg (by decide), if_neg (by decide), if_neg (by decide), if_pos (by decide), z1]
      · unfold fn_206 fn_205 am_F
        simp only [fn_26_b, b01_t h1, i10, not_false_eq_true, if_true, if_false, fn_29_0]
        rw [if_neg (by decide), if_neg (by decide), if_neg (by decide), if_neg (by decide), if_neg (by decide), if_neg (not_not_intro n5), z3]
    · have q : ∀ D' : am_DD, D' 322 = D 322 → ∃ y, fn_196_4 100000 (-1) 0 1 D = some (y, D) ∧ fn_205_4 100000 0 0 1 D' = some (y, D') := fun D' hD => by
        by_cases hz : kp = 0
        · subst hz
          refine ⟨0, ?_, ?_⟩
          · show fn_196_4 (99999 + 1) (-1) 0 1 D = _
            rw [fn_196_4, h.2.2.2.1.2.1, if_pos (by decide)]
          · show fn_205_4 (99999 + 1) 0 0 1 D' = _
            rw [fn_205_4, hD, h.2.2.2.1.1, if_pos (by decide)]
        · exact lp_196 h hD (Or.inr ⟨rfl, rfl⟩) (kp - 1) 1 100000 100000 0 (by omega) (by omega) (by omega) (by omega)
      obtain ⟨y, z1, -⟩ := q D rfl
      obtain ⟨y', z2, z3⟩ := q _ (R D y rfl)
      have e := (Prod.mk.inj (Option.some.inj (z1.symm.trans z2))).1
      rw [← e] at z3
      refine in_qm (y := y) (D1 := D) hi ?_ (fun _ _ _ _ => rfl) (fun _ _ => rfl) ?_
      · unfold fn_197 fn_196 am_F
        rw [if_neg (by decide), if_neg (by decide), if_neg (by decide), if_neg (by decide), if_neg (by decide), if_neg (by decide), if_pos (by decide), z1]
      · unfold fn_206 fn_205 am_F
        simp only [fn_26_b, b01_t h1, i10, not_false_eq_true, if_true, if_false, fn_29_0]
        rw [if_neg (by decide), if_neg (by decide), if_neg (by decide), if_neg (by decide), if_neg (by decide), if_pos (by decide), z3]
  · have nn : ∀ x : Nat, x ≤ 6 → ¬ a = Int32.ofNat x := fun x hx z => h1 (by
      rw [z, rng, t_ofNat (by omega)]
      have : (6 : Int32).toInt = 6 := rfl
      rw [this, l_0]
      omega)
    refine in_no (kk := 1) (y := 0) (b := 0) hi ?_ (by omega) (by decide) ?_
    · unfold fn_197
      rw [if_neg (show ¬ a = 0 from nn 0 (by omega)), if_neg (show ¬ a = 1 from nn 1 (by omega)), if_neg (show ¬ a = 2 from nn 2 (by omega)), if_neg (show ¬ a = 3 from nn 3 (by omega)), if_neg (show ¬ a = 4 from nn 4 (by omega)), if_neg (show ¬ a = 5 from nn 5 (by omega)), if_neg (show ¬ a = 6 from nn 6 (by omega))]
    · unfold fn_206
      simp only [fn_26_b, b01_f h1, fn_29_1, not_true, if_true, if_false]
      rfl
