/-! the music's counts: 21 -/
theorem dc_congr {f g : Nat → Nat} : ∀ n, (∀ i, i < n → f i = g i) → dc f n = dc g n := by
  intro n
  induction n with
  | zero => intro _; rfl
  | succ n ih =>
    intro h
    have e1 : dc f (n + 1) = dc f n + (if ∀ j, j < n → f j ≠ f n then 1 else 0) := rfl
    have e2 : dc g (n + 1) = dc g n + (if ∀ j, j < n → g j ≠ g n then 1 else 0) := rfl
    rw [e1, e2, ih (fun i hi => h i (by omega))]
    by_cases z : ∀ j, j < n → f j ≠ f n
    · rw [if_pos z, if_pos (fun j hj => by rw [← h j (by omega), ← h n (by omega)]; exact z j hj)]
    · rw [if_neg z, if_neg (fun w => z (fun j hj => by rw [h j (by omega), h n (by omega)]; exact w j hj))]
theorem mx_congr {f g : Nat → Nat} : ∀ n, (∀ i, i < n → f i = g i) → mx f n = mx g n := by
  intro n
  induction n with
  | zero => intro _; rfl
  | succ n ih =>
    intro h
    unfold mx
    rw [ih (fun i hi => h i (by omega)), h n (by omega)]
section VK4
variable {D : am_DD} {m n kp o : Nat}
/-- the class's chords: w of them, G -/
theorem fn_191_n (h : vw D m n kp o) (asc : ∀ q q' q2, q ≤ q' → q' ≤ q2 → q2 < kp → be D q = be D q2 → be D q' = be D q) : ∃ D1 w G, fn_191 D = some (0, D1) ∧ (∀ a, a ≠ 44 → a ≠ 40 → D1 a = D a) ∧ D1 40 3 = Int32.ofNat w ∧ w ≤ 60 ∧ (∀ i, i < w → D1 44 i = Int32.ofNat (G i) ∧ G i < 2 ^ 31) ∧ dc (ch D kp) kp = dc G w ∧ mx (fun q => pb 31 (ch D kp q)) kp = mx (fun i => pb 31 (G i)) w := by
  have hk := h.1.2.2.1
  have fA : ∀ a, a ≠ 44 → a ≠ 40 → am_upd D 40 3 0 a = D a := fun a _ a2 => u_row a2
  by_cases hz : kp = 0
  · subst hz
    refine ⟨am_upd D 40 3 0, 0, fun _ => 0, ?_, fA, u_self _ _ _ _, by omega, fun i hi => by omega, rfl, rfl⟩
    unfold fn_191 am_F
    show fn_191_9 (99999 + 1) 0 0 (am_upd D 40 3 0) = _
    rw [fn_191_9, u_ne (show ¬ (26 = 40 ∧ 1 = 3) by omega), h.2.2.2.1.2.1, if_pos (by decide)]
  · obtain ⟨D1, i1, i2, i3, i4⟩ := lp_191 h asc (kp - 1) 0 100000 (am_upd D 40 3 0) (by omega) (by omega) fA (u_self _ _ _ _) (fun i hi => by omega)
    have rl := rn_le D (kp - 1)
    have hG : ∀ q, q < kp → ch D kp q = (D1 44 (rn D q)).toNatClampNeg := fun q hq => by rw [i4 q hq, c_ofNat (ch_lt h q)]
    refine ⟨D1, rn D (kp - 1) + 1, fun i => (D1 44 i).toNatClampNeg, i1, i2, i3, by omega, fun i hi => ?_, ?_, ?_⟩
    · obtain ⟨q', a, b⟩ := rn_on (rn := rn D) rfl (rn_step D) (kp - 1) i (by omega)
      have := i4 q' (by omega)
      rw [b] at this
      rw [this, c_ofNat (ch_lt h q')]
      exact ⟨rfl, ch_lt h q'⟩
    · have e := dc_rn (rn := rn D) (G := fun i => (D1 44 i).toNatClampNeg) rfl (rn_step D) (kp - 1)
      rw [show kp - 1 + 1 = kp by omega] at e
      rw [← e]
      exact dc_congr kp hG
    · have e := mx_rn (rn := rn D) (G := fun i => pb 31 ((D1 44 i).toNatClampNeg)) rfl (rn_step D) (kp - 1)
      rw [show kp - 1 + 1 = kp by omega] at e
      rw [← e]
      exact mx_congr kp (fun q hq => by rw [hG q hq])
theorem lp_192 {D1 : am_DD} {w i : Nat} {G : Nat → Nat} (hw : w ≤ 60) (hG : ∀ i, i < w → D1 44 i = Int32.ofNat (G i) ∧ G i < 2 ^ 31) (hi : i < w) : ∀ (c j N : Nat), j + c = i → c < N → fn_192_2 N (Int32.ofNat i) (Int32.ofNat j) D1 = some (b01 (∀ x, x < i → j ≤ x → G x ≠ G i), D1) := by
  intro c
  induction c with
  | zero =>
    intro j N hj hN
    obtain ⟨N, rfl⟩ : ∃ n', N = n' + 1 := ⟨N - 1, by omega⟩
    rw [fn_192_2, if_pos (n_ile (by omega) (by omega) (by omega)), b01_t (fun x a b => by omega)]
  | succ c ih =>
    intro j N hj hN
    obtain ⟨N, rfl⟩ : ∃ n', N = n' + 1 := ⟨N - 1, by omega⟩
    rw [fn_192_2, if_neg (n_nle (by omega) (by omega) (by omega)), rw_at_nI (show j < 60 by omega) (by decide), rw_at_nI (show i < 60 by omega) (by decide), (hG j (by omega)).1, (hG i hi).1, nI_up]
    by_cases z : G j = G i
    · rw [if_neg (not_not_intro (by rw [z])), b01_f (fun w => w j (by omega) (Nat.le_refl _) z)]
    · rw [if_pos (fun w => z (n_inj (hG j (by omega)).2 (hG i hi).2 w)), ih (j + 1) N (by omega) (by omega)]
      refine congrArg (fun z => some (z, D1)) (b01_congr ⟨fun w x a b => ?_, fun w x a b => w x a (by omega)⟩)
      by_cases e : x = j
      · rw [e]; exact z
      · exact w x a (by omega)
theorem lp_193 {D1 : am_DD} {w : Nat} {G : Nat → Nat} (hw : w ≤ 60) (h3 : D1 40 3 = Int32.ofNat w) (hG : ∀ i, i < w → D1 44 i = Int32.ofNat (G i) ∧ G i < 2 ^ 31) : ∀ (c i N : Nat), i + c = w → c < N → fn_193_8 N (Int32.ofNat (dc G i)) (Int32.ofNat i) D1 = some (Int32.ofNat (dc G w), D1) := by
  intro c
  induction c with
  | zero =>
    intro i N hi hN
    obtain ⟨N, rfl⟩ : ∃ n', N = n' + 1 := ⟨N - 1, by omega⟩
    have : i = w := by omega
    subst this
    rw [fn_193_8, h3, if_pos (n_ile (by omega) (by omega) (Nat.le_refl _))]
  | succ c ih =>
    intro i N hi hN
    obtain ⟨N, rfl⟩ : ∃ n', N = n' + 1 := ⟨N - 1, by omega⟩
    have l := lp_192 hw hG (show i < w by omega) i 0 100000 (by omega) (by omega)
    have l' : fn_192 (Int32.ofNat i) D1 = some (b01 (∀ x, x < i → 0 ≤ x → G x ≠ G i), D1) := l
    have e : dc G (i + 1) = dc G i + (if ∀ j, j < i → G j ≠ G i then 1 else 0) := rfl
    have k := ih (i + 1) N (by omega) (by omega)
    rw [fn_193_8, h3, if_neg (n_nle (by omega) (by omega) (by omega)), l']
    dsimp only
    rw [nI_up]
    by_cases z : ∀ j, j < i → G j ≠ G i
    · rw [b01_t (fun x a _ => z x a), if_neg (by decide), nI_up]
      rw [e, if_pos z] at k
      exact k
    · rw [b01_f (fun w => z (fun x a => w x a (Nat.zero_le _))), if_pos rfl, Int32.add_zero]
      rw [e, if_neg z, Nat.add_zero] at k
      exact k
theorem lp_195 {D1 : am_DD} {w : Nat} {G : Nat → Nat} (hw : w ≤ 60) (h3 : D1 40 3 = Int32.ofNat w) (hG : ∀ i, i < w → D1 44 i = Int32.ofNat (G i) ∧ G i < 2 ^ 31) : ∀ (c i N : Nat), i + c = w → c < N → fn_195_8 N (Int32.ofNat (mx (fun i => pb 31 (G i)) i)) (Int32.ofNat i) D1 = some (Int32.ofNat (mx (fun i => pb 31 (G i)) w), D1) := by
  intro c
  induction c with
  | zero =>
    intro i N hi hN
    obtain ⟨N, rfl⟩ : ∃ n', N = n' + 1 := ⟨N - 1, by omega⟩
    have : i = w := by omega
    subst this
    rw [fn_195_8, h3, if_pos (n_ile (by omega) (by omega) (Nat.le_refl _))]
  | succ c ih =>
    intro i N hi hN
    obtain ⟨N, rfl⟩ : ∃ n', N = n' + 1 := ⟨N - 1, by omega⟩
    have e : mx (fun i => pb 31 (G i)) (i + 1) = if mx (fun i => pb 31 (G i)) i < pb 31 (G i) then pb 31 (G i) else mx (fun i => pb 31 (G i)) i := rfl
    have k := ih (i + 1) N (by omega) (by omega)
    have m1 := mx_le (f := fun i => pb 31 (G i)) (M := 31) (fun q => pb_le 31 _) i
    have m2 := pb_le 31 (G i)
    rw [fn_195_8, h3, if_neg (n_nle (by omega) (by omega) (by omega)), rw_at_nI (show i < 60 by omega) (by decide), (hG i (by omega)).1, fn_194_n (hG i (by omega)).2]
    dsimp only
    rw [nI_up]
    by_cases z : mx (fun i => pb 31 (G i)) i < pb 31 (G i)
    · rw [if_pos ((n_lt (by omega) (by omega)).mpr z)]
      rw [e, if_pos z] at k
      exact k
    · rw [if_neg (fun w => z ((n_lt (by omega) (by omega)).mp w))]
      rw [e, if_neg z] at k
      exact k
end VK4
/-- the end of a call about the music -/
theorem in_qm {hm : Nat → Int32} {k : Nat} {C : Option (Int32 × Nat × am_DD)} {M : am_DD → Option (Int32 × am_DD)} {D D1 : am_DD} {y : Int32} (hi : in_ok k D) (hC : C = some (y, 0, D1)) (h1 : ∀ a, a ≠ 40 → a ≠ 42 → a ≠ 44 → D1 a = D a) (h40 : ∀ j, j ≠ 3 → D1 40 j = D 40 j) (hM : M (am_upd D1 329 0 y) = some (y, am_upd (am_upd D1 329 0 y) 321 7 0)) : in_wr hm k C M := by
  refine in_q hi hC (fun a j hs => ?_) hM ((in_agr.rf _).upd (by decide)) (u_self _ _ _ _) (by rw [u_ne (by omega), u_self])
  have q42 : a ≠ 42 := fun q => by subst q; simp [in_scr] at hs
  have q44 : a ≠ 44 := fun q => by subst q; simp [in_scr] at hs
  by_cases q40 : a = 40
  · subst q40
    exact h40 j (fun q => by subst q; exact absurd hs (by decide))
  · rw [h1 a q40 q42 q44]
