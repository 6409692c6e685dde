/-! what the guards say -/
section VPRED
variable {a a1 a2 a3 : Int32} {D : am_DD} {m : Nat}
theorem l_0 : (0 : Int32).toInt = 0 := rfl
theorem l_1 : (1 : Int32).toInt = 1 := rfl
theorem l_2 : (2 : Int32).toInt = 2 := rfl
theorem l_3 : (3 : Int32).toInt = 3 := rfl
theorem l_4 : (4 : Int32).toInt = 4 := rfl
theorem l_5 : (5 : Int32).toInt = 5 := rfl
theorem l_7 : (7 : Int32).toInt = 7 := rfl
theorem l_9 : (9 : Int32).toInt = 9 := rfl
theorem l_12 : (12 : Int32).toInt = 12 := rfl
theorem l_20 : (20 : Int32).toInt = 20 := rfl
theorem l_25 : (25 : Int32).toInt = 25 := rfl
theorem l_30 : (30 : Int32).toInt = 30 := rfl
theorem l_31 : (31 : Int32).toInt = 31 := rfl
theorem l_33 : (33 : Int32).toInt = 33 := rfl
theorem l_40 : (40 : Int32).toInt = 40 := rfl
theorem l_50 : (50 : Int32).toInt = 50 := rfl
theorem l_60 : (60 : Int32).toInt = 60 := rfl
theorem l_126 : (126 : Int32).toInt = 126 := rfl
theorem l_200 : (200 : Int32).toInt = 200 := rfl
theorem l_999 : (999 : Int32).toInt = 999 := rfl
theorem l_1000 : (1000 : Int32).toInt = 1000 := rfl
theorem i10 : ((1 : Int32) = 0) = False := eq_false (by decide)
theorem i20 : ((2 : Int32) = 0) = False := eq_false (by decide)
theorem i12 : ((1 : Int32) = 2) = False := eq_false (by decide)
theorem b01_eq0' {P : Prop} [Decidable P] : (b01 P = 0) = ¬ P := propext b01_eq0
theorem b01_congr {P Q : Prop} [Decidable P] [Decidable Q] (h : P ↔ Q) : b01 P = b01 Q := by
  by_cases hP : P
  · rw [b01_t hP, b01_t (h.mp hP)]
  · rw [b01_f hP, b01_f (fun q => hP (h.mpr q))]
theorem fn_13_b : fn_13 a D = some (b01 (rng a 0 30), D) := by
  unfold fn_13
  simp only [i_lt, i_le, l_0, l_31]
  by_cases h1 : a.toInt < 0
  · rw [if_pos h1, b01_f (by omega)]
  · rw [if_neg h1]
    by_cases h2 : 31 ≤ a.toInt
    · rw [if_pos h2, b01_f (by omega)]
    · rw [if_neg h2, b01_t (by omega)]
theorem fn_14_b (h : D 8 0 = Int32.ofNat m) (hm : m ≤ 12) : fn_14 D = some (b01 (m < 12), D) := by
  unfold fn_14
  rw [h]
  have e : (12 : Int32) ≤ Int32.ofNat m ↔ 12 ≤ m := n_le (a := 12) (by omega) (by omega)
  by_cases h2 : 12 ≤ m
  · rw [if_pos (e.mpr h2), b01_f (by omega)]
  · rw [if_neg (fun z => h2 (e.mp z)), b01_t (by omega)]
theorem fn_26_b : fn_26 a1 a2 a3 D = some (b01 (rng a1 a2.toInt a3.toInt), D) := by
  unfold fn_26
  simp only [i_lt, i_le]
  by_cases h1 : a1.toInt < a2.toInt
  · rw [if_pos h1, b01_f (by omega)]
  · rw [if_neg h1]
    by_cases h2 : a3.toInt < a1.toInt
    · rw [if_pos h2, b01_f (by omega)]
    · rw [if_neg h2, b01_t (by omega)]
theorem fn_27_b : fn_27 a D = some (b01 (rng a 0 30), D) := by
  unfold fn_27
  rw [fn_26_b]
  simp only [b01_isb, if_true]
  rfl
theorem fn_45_b : fn_45 a D = some (b01 (rng a 0 4), D) := by
  unfold fn_45
  rw [fn_26_b]
  simp only [b01_isb, if_true]
  rfl
theorem fn_148_b : fn_148 a D = some (b01 (rng a 0 1), D) := by
  unfold fn_148
  rw [fn_26_b]
  simp only [b01_isb, if_true]
  rfl
theorem fn_217_b : fn_217 a D = some (b01 (rng a 0 1000), D) := by
  unfold fn_217
  rw [fn_26_b]
  simp only [b01_isb, if_true]
  rfl
theorem fn_91_b : fn_91 a D = some (b01 (rng a 0 4), D) := by
  unfold fn_91
  simp only [i_lt, i_le, l_0, l_5]
  by_cases h1 : a.toInt < 0
  · rw [if_pos h1, b01_f (by omega)]
  · rw [if_neg h1]
    by_cases h2 : 5 ≤ a.toInt
    · rw [if_pos h2, b01_f (by omega)]
    · rw [if_neg h2, b01_t (by omega)]
theorem fn_145_b : fn_145 a D = some (b01 (rng a 0 1), D) := by
  unfold fn_145
  simp only [i_lt, i_le, l_0, l_2]
  by_cases h1 : a.toInt < 0
  · rw [if_pos h1, b01_f (by omega)]
  · rw [if_neg h1]
    by_cases h2 : 2 ≤ a.toInt
    · rw [if_pos h2, b01_f (by omega)]
    · rw [if_neg h2, b01_t (by omega)]
theorem fn_210_b : fn_210 a D = some (b01 (rng a 0 1000), D) := by
  unfold fn_210
  simp only [i_lt, i_le, l_0, l_1000]
  by_cases h1 : a.toInt < 0
  · rw [if_pos h1, b01_f (by omega)]
  · rw [if_neg h1]
    by_cases h2 : 1000 < a.toInt
    · rw [if_pos h2, b01_f (by omega)]
    · rw [if_neg h2, b01_t (by omega)]
theorem fn_36_b (h : D 8 0 = Int32.ofNat m) (hm : m ≤ 12) : fn_36 a D = some (b01 (rng a 0 (m - 1)), D) := by
  unfold fn_36
  rw [h]
  have l2 := t_ofNat (n := m) (by omega)
  simp only [i_lt, i_le, l_0, l2]
  by_cases h1 : a.toInt < 0
  · rw [if_pos h1, b01_f (by omega)]
  · rw [if_neg h1]
    by_cases h2 : (m : Int) ≤ a.toInt
    · rw [if_pos h2, b01_f (by omega)]
    · rw [if_neg h2, b01_t (by omega)]
theorem fn_44_b (h : D 322 1 = Int32.ofNat m) (hm : m ≤ 12) : fn_44 a D = some (b01 (rng a 0 (m - 1)), D) := by
  unfold fn_44
  have l2 := t_ofNat (n := m) (by omega)
  have l1 : (1 : Int32).toInt = 1 := rfl
  have e : (Int32.ofNat m - 1).toInt = m - 1 := by rw [t_sub (by omega) (by omega), l2, l1]
  rw [fn_26_b, h]
  simp only [b01_isb, if_true]
  rw [e]
  rfl
theorem fn_37_b (h : D 8 0 = Int32.ofNat m) (hm : m ≤ 12) : fn_37 a1 a2 D = some (b01 (rng a1 0 (m - 1) ∧ rng a2 0 1), D) := by
  unfold fn_37
  rw [fn_36_b h hm]
  simp only [i_eq a2, l_0, l_1]
  by_cases h1 : rng a1 0 (m - 1)
  · simp only [b01_t h1, i10, if_false]
    by_cases h2 : a2.toInt = 0
    · rw [if_pos h2, b01_t ⟨h1, by omega⟩]
    · rw [if_neg h2]
      by_cases h3 : a2.toInt = 1
      · rw [if_neg (not_not_intro h3), b01_t ⟨h1, by omega⟩]
      · rw [if_pos h3, b01_f (fun z => by have := z.2; omega)]
  · simp only [b01_f h1, if_true]
    rw [b01_f (fun z => h1 z.1)]
theorem fn_38_b (h : D 8 0 = Int32.ofNat m) (hm : m ≤ 12) : fn_38 a D = some (b01 (rng a 0 (m - 1) ∨ rng a 20 24), D) := by
  unfold fn_38
  rw [fn_36_b h hm]
  simp only [i_lt, i_le, l_20, l_25]
  by_cases h1 : rng a 0 (m - 1)
  · simp only [b01_t h1, i10, not_false_eq_true, if_true]
    rw [b01_t (Or.inl h1)]
  · simp only [b01_f h1, not_true, if_false]
    by_cases h2 : a.toInt < 20
    · rw [if_pos h2, b01_f (fun z => by rcases z with z | z <;> omega)]
    · rw [if_neg h2]
      by_cases h3 : 25 ≤ a.toInt
      · rw [if_pos h3, b01_f (fun z => by rcases z with z | z <;> omega)]
      · rw [if_neg h3, b01_t (Or.inr (by omega))]
theorem fn_46_b (h : D 322 1 = Int32.ofNat m) (hm : m ≤ 12) : fn_46 a D = some (b01 (rng a 0 (m - 1) ∨ rng a 20 24), D) := by
  unfold fn_46
  rw [fn_44_b h hm]
  have l1 : (20 : Int32).toInt = 20 := rfl
  have b1 := i_b1 a
  have b2 := i_b2 a
  have e := t_subw a 20
  have b3 := i_b1 (a - 20)
  have b4 := i_b2 (a - 20)
  by_cases h1 : rng a 0 (m - 1)
  · simp only [b01_t h1, i10, not_false_eq_true, if_true]
    rw [b01_t (Or.inl h1)]
  · simp only [b01_f h1, not_true, if_false, fn_45_b]
    by_cases h2 : rng (a - 20) 0 4
    · simp only [b01_t h2, i10, if_false]
      rw [b01_t (Or.inr (by omega))]
    · simp only [b01_f h2, if_true]
      rw [b01_f (fun z => by rcases z with z | z <;> omega)]
theorem fn_29_b : fn_29 a D = some (b01 (a = 0), am_upd D 321 7 a) := by
  unfold fn_29
  by_cases h : a = 0
  · rw [if_neg (not_not_intro h), b01_t h]
  · rw [if_pos h, b01_f h]
theorem fn_28_b (h : D 322 1 = Int32.ofNat m) (hm : m ≤ 12) : fn_28 a D = some (if rng a 0 30 then (if m < 12 then 0 else 2) else 1, D) := by
  unfold fn_28
  rw [fn_27_b]
  dsimp only
  rw [h]
  have e : Int32.ofNat m = 12 ↔ m = 12 := n_eq (b := 12) (by omega) (by omega)
  by_cases h1 : rng a 0 30
  · simp only [b01_t h1, i10, not_false_eq_true, if_true]
    rw [if_pos h1]
    by_cases h2 : m = 12
    · rw [if_neg (not_not_intro (e.mpr h2)), if_neg (by omega)]
    · rw [if_pos (fun z => h2 (e.mp z)), if_pos (by omega)]
  · simp only [b01_f h1, not_true, if_false]
    rw [if_neg h1]
theorem fn_47_b (h : D 322 1 = Int32.ofNat m) (hm : m ≤ 12) : fn_47 a1 a2 a3 D = some (if (rng a1 0 (m - 1) ∧ rng a2 0 1) ∧ (rng a3 0 (m - 1) ∨ rng a3 20 24) then (if a1 < a3 then 0 else 2) else 1, D) := by
  unfold fn_47
  rw [fn_44_b h hm]
  by_cases h1 : rng a1 0 (m - 1)
  · simp only [b01_t h1, i10, if_false, fn_26_b]
    by_cases h2 : rng a2 (0 : Int32).toInt (1 : Int32).toInt
    · simp only [b01_t h2, i10, if_false, fn_46_b h hm]
      by_cases h3 : rng a3 0 (m - 1) ∨ rng a3 20 24
      · simp only [b01_t h3, i10, if_false]
        rw [if_pos (show (rng a1 0 (m - 1) ∧ rng a2 0 1) ∧ (rng a3 0 (m - 1) ∨ rng a3 20 24) from ⟨⟨h1, h2⟩, h3⟩)]
        split <;> rfl
      · simp only [b01_f h3, if_true]
        rw [if_neg (fun z => h3 z.2)]
    · simp only [b01_f h2, if_true]
      rw [if_neg (fun z => h2 z.1.2)]
  · simp only [b01_f h1, if_true]
    rw [if_neg (fun z => h1 z.1.1)]
end VPRED
/-! one call of both, as the law makes it -/
def hmf (h0 h1 h2 : Int32) (kk : Nat) : Int32 := if kk = 1 then h0 else if kk = 2 then h1 else if kk = 3 then h2 else 0
def in_wr (hm : Nat → Int32) (k : Nat) (C : Option (Int32 × Nat × am_DD)) (M : am_DD → Option (Int32 × am_DD)) : Prop :=
  ∃ y kk D1, C = some (y, kk, D1) ∧ ((kk = 0 ∧ ∃ D2, M (am_upd D1 329 0 y) = some (y, D2) ∧ D2 321 7 = 0 ∧ D2 329 0 = y ∧ in_ok (k + 1) D2) ∨ (hm kk ≠ 0 ∧ kk ≠ 0 ∧ ∃ b D2, M D1 = some (b, D2) ∧ D2 321 7 = hm kk ∧ in_ok (k + 1) D2))
/-- both refuse -/
theorem in_no {hm : Nat → Int32} {k kk : Nat} {C : Option (Int32 × Nat × am_DD)} {M : am_DD → Option (Int32 × am_DD)} {D : am_DD} {y b : Int32} (hi : in_ok k D) (hC : C = some (y, kk, D)) (hk : kk ≠ 0) (h0 : hm kk ≠ 0) (hM : M D = some (b, am_upd D 321 7 (hm kk))) : in_wr hm k C M :=
  ⟨y, kk, D, hC, Or.inr ⟨h0, hk, b, _, hM, u_self _ _ _ _, in_ok.agr (by omega) ((in_agr.rf D).upd (by decide)) hi⟩⟩
/-- both answer, and change nothing that counts -/
theorem in_q {hm : Nat → Int32} {k : Nat} {C : Option (Int32 × Nat × am_DD)} {M : am_DD → Option (Int32 × am_DD)} {D D1 D2 : am_DD} {y : Int32} (hi : in_ok k D) (hC : C = some (y, 0, D1)) (h1 : in_agr D D1) (hM : M (am_upd D1 329 0 y) = some (y, D2)) (h2 : in_agr (am_upd D1 329 0 y) D2) (h7 : D2 321 7 = 0) (h9 : D2 329 0 = y) : in_wr hm k C M :=
  ⟨y, 0, D1, hC, Or.inl ⟨rfl, D2, hM, h7, h9, in_ok.agr (by omega) ((h1.upd (by decide)).tr h2) hi⟩⟩
/-- what the class's call may not touch when it may be undone; what the reference's may not -/
def in_kc (a j : Nat) : Prop := 50 ≤ a ∧ a ≠ 329 ∧ in_scr a j = false
def in_km (a j : Nat) : Prop := a ≠ 322 ∧ a ≠ 327 ∧ a ≠ 328 ∧ ¬ (a = 321 ∧ (j = 6 ∨ j = 9 ∨ j = 10 ∨ j = 12))
theorem in_und {k : Nat} {D : am_DD} (hi : in_ok k D) {fC fM : am_DD → Option (Int32 × am_DD)}
    (hC : ∀ Dh : am_DD, (∀ a, ¬ hs_cls a → a ≠ 252 → Dh a = D a) → st_ok (1000 * k) (Dh 322) (st_v Dh 1) → ∃ y D1, fC Dh = some (y, D1) ∧ (∀ a j, in_kc a j → D1 a j = Dh a j) ∧
      ∀ D4 : am_DD, (∀ a j, ¬ a = 323 → ¬ (a = 321 ∧ j = 2) → D4 a j = am_upd (am_upd D1 329 0 y) 321 7 0 a j) → ∃ D5, fM D4 = some (y, D5) ∧ (∀ a j, in_km a j → D5 a j = D4 a j) ∧ st_ok (1000 * (k + 1)) (D5 322) (st_v D5 1) ∧ tx_ok D5) :
    ∃ Dh y D1 D4 D5, fn_22 D = some (0, Dh) ∧ fC Dh = some (y, D1) ∧ fn_31 (am_upd (am_upd D1 329 0 y) 321 7 0) = some (0, D4) ∧ fM D4 = some (y, D5) ∧ D5 321 7 = 0 ∧ D5 329 0 = y ∧ in_ok (k + 1) D5 ∧ ∀ a j, 320 < a → in_scr a j = false → D1 a j = D a j := by
  obtain ⟨Dh, a1, a2, a3⟩ := hs_step hi.1 hi.2.1
  have e322 : Dh 322 = D 322 := a2 322 (by unfold hs_cls; omega) (by omega)
  have h1 : st_ok (1000 * k) (Dh 322) (st_v Dh 1) := by
    refine st_congr (fun j _ => by rw [e322]) (fun o j ho => ?_) hi.1
    have := st_v_hit ho
    unfold st_v
    rw [a2 _ (by unfold hs_cls; omega) (by omega)]
  obtain ⟨y, D1, b1, b2, b3⟩ := hC Dh a2 h1
  obtain ⟨D4, c1, c2, c3⟩ := a3 (am_upd (am_upd D1 329 0 y) 321 7 0)
    (by rw [u_row (by decide), u_row (by decide)]; funext j; rw [b2 323 j ⟨by omega, by omega, by simp [in_scr]⟩, a2 323 (by unfold hs_cls; omega) (by omega)])
    (by rw [u_ne (by decide), u_row (by decide), b2 321 2 ⟨by omega, by omega, by decide⟩, a2 321 (by unfold hs_cls; omega) (by omega)])
    (by rw [u_row (by decide), u_row (by decide)]; funext j; rw [b2 322 j ⟨by omega, by omega, by simp [in_scr]⟩, e322])
  obtain ⟨D5, d1, d2, d3, d4⟩ := b3 D4 c2
  have run : ∀ a j, 50 ≤ a → a < 321 → in_scr a j = false → D5 a j = Dh a j := fun a j h50 h h2 => by
    rw [d2 a j ⟨by omega, by omega, by omega, by omega⟩, c2 a j (by omega) (by omega), u_ne (by omega), u_ne (by omega), b2 a j ⟨h50, by omega, h2⟩]
  refine ⟨Dh, y, D1, D4, D5, a1, b1, c1, d1, ?_, ?_, ⟨d3, ?_, ?_, d4⟩, fun a j h1 h2 => by
    have hne : a ≠ 329 := fun h => by subst h; simp [in_scr] at h2
    rw [b2 a j ⟨by omega, hne, h2⟩, a2 a (by unfold hs_cls; omega) (by omega)]⟩
  · rw [d2 321 7 ⟨by omega, by omega, by omega, by omega⟩, c2 321 7 (by omega) (by omega), u_self]
  · rw [d2 329 0 ⟨by omega, by omega, by omega, by omega⟩, c2 329 0 (by omega) (by omega), u_ne (by omega), u_self]
  · have hh : hs_ok (1000 * k) D5 := c3 D5 (fun a ha => ?_) (fun j => d2 323 j ⟨by omega, by omega, by omega, by omega⟩) (d2 321 2 ⟨by omega, by omega, by omega, by omega⟩)
    · obtain ⟨o, c, z1, z2, z3, z4, z5, z6⟩ := hh
      exact ⟨o, c, z1, z2, z3, z4, z5, fun r hr => st_mono (by omega) (z6 r hr)⟩
    · funext j
      unfold hs_cls at ha
      exact run a j (by omega) (by omega) (in_scr_runs a (by omega) (by omega) (by omega) j)
  · have old : ∀ a j, 255 ≤ a → a < 320 → D5 a j = D a j := fun a j h1 h2 => by
      rw [run a j (by omega) (by omega) (in_scr_runs a (by omega) (by omega) (by omega) j), a2 a (by unfold hs_cls; omega) (by omega)]
    have o320 : ∀ j, D5 320 j = D 320 j := fun j => by
      rw [run 320 j (by omega) (by omega) (by simp [in_scr]), a2 320 (by unfold hs_cls; omega) (by omega)]
    have o3 : ∀ a j, (a = 324 ∨ a = 325) → D5 a j = D a j := fun a j h => by
      rw [d2 a j ⟨by omega, by omega, by omega, by omega⟩, c2 a j (by omega) (by omega), u_ne (by omega), u_ne (by omega), b2 a j ⟨by omega, by omega, by rcases h with h | h <;> subst h <;> simp [in_scr]⟩, a2 a (by unfold hs_cls; omega) (by omega)]
    intro t ht
    rw [o3 325 t (Or.inr rfl), o320 t]
    rcases hi.2.2.1 t ht with z | ⟨z1, z2, z3⟩
    · exact Or.inl z
    · refine Or.inr ⟨z1, z2, st_mono (by omega) (st_congr (fun j _ => o3 324 _ (Or.inl rfl)) (fun q j hq => ?_) z3)⟩
      have := st_v_hit hq
      exact old _ _ (by omega) (by omega)
