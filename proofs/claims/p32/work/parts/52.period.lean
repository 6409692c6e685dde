/-! the period is a power of two -/
theorem rs_none {T0 T1 A : Nat → Nat} {t : Nat} : ∀ G, (∀ g, g < G → T0 g ≠ t ∧ T1 g ≠ t) → rs T0 T1 A t G = 0 := by
  intro G
  induction G with
  | zero => intro _; rfl
  | succ G ih =>
    intro h
    unfold rs
    rw [ih (fun g hg => h g (by omega)), if_neg (h G (by omega)).1, if_neg (h G (by omega)).2]
theorem rs_add {T0 T1 X Y Z : Nat → Nat} {t : Nat} : ∀ G, (∀ g, g < G → (T0 g = t ∨ T1 g = t) → Z g = X g + Y g ∧ X g % 2 = 0) → rs T0 T1 Z t G = rs T0 T1 X t G + rs T0 T1 Y t G := by
  intro G
  induction G with
  | zero => intro _; rfl
  | succ G ih =>
    intro h
    unfold rs
    rw [ih (fun g hg => h g (by omega))]
    have h2 := h G (by omega)
    by_cases c0 : T0 G = t
    · obtain ⟨e1, e2⟩ := h2 (Or.inl c0)
      rw [if_pos c0, if_pos c0, if_pos c0, e1]
      by_cases c1 : T1 G = t
      · rw [if_pos c1, if_pos c1, if_pos c1]; omega
      · rw [if_neg c1, if_neg c1, if_neg c1]; omega
    · rw [if_neg c0, if_neg c0, if_neg c0]
      by_cases c1 : T1 G = t
      · obtain ⟨e1, e2⟩ := h2 (Or.inr c1)
        rw [if_pos c1, if_pos c1, if_pos c1, e1]; omega
      · rw [if_neg c1, if_neg c1, if_neg c1]; omega
section PER
variable {T0 T1 : Nat → Nat} {m : Nat}
/-- all gates below G have let an even number out -/
def evs (T0 T1 : Nat → Nat) (m G p : Nat) : Prop := ∀ g, g < G → bs T0 T1 p m g % 2 = 0
theorem bs_add (hT : ∀ g, g < m → g < T0 g ∧ g < T1 g) {G p q : Nat} (hp : evs T0 T1 m G p) : ∀ n t, t < n → t ≤ G → bs T0 T1 (p + q) m t = bs T0 T1 p m t + bs T0 T1 q m t := by
  intro n
  induction n with
  | zero => intro t ht; omega
  | succ n ih =>
    intro t ht htG
    have f1 := bs_fp (k := p + q) hT t
    have f2 := bs_fp (k := p) hT t
    have f3 := bs_fp (k := q) hT t
    have e := rs_add (T0 := T0) (T1 := T1) (X := bs T0 T1 p m) (Y := bs T0 T1 q m) (Z := bs T0 T1 (p + q) m) (t := t) m (fun g hg ho => by
      have := hT g hg
      exact ⟨ih g (by omega) (by omega), hp g (by omega)⟩)
    rw [e] at f1
    split at f1 <;> simp_all <;> omega
theorem bs_zero (hT : ∀ g, g < m → g < T0 g ∧ g < T1 g) (t : Nat) : bs T0 T1 0 m t = 0 := by
  have := fp_unique hT (bs_fp (k := 0) hT) fp_zero (t + 1) t (by omega)
  exact this
theorem evs_zero (hT : ∀ g, g < m → g < T0 g ∧ g < T1 g) {G : Nat} : evs T0 T1 m G 0 := fun g _ => by rw [bs_zero hT]
theorem evs_add (hT : ∀ g, g < m → g < T0 g ∧ g < T1 g) {G p q : Nat} (hp : evs T0 T1 m G p) (hq : evs T0 T1 m G q) : evs T0 T1 m G (p + q) := fun g hg => by
  rw [bs_add hT hp (g + 1) g (by omega) (by omega)]
  have h1 := hp g hg
  have h2 := hq g hg
  omega
/-- a number of balls after which all below G stand as before, many times -/
theorem bs_mul (hT : ∀ g, g < m → g < T0 g ∧ g < T1 g) {G p : Nat} (hp : evs T0 T1 m G p) : ∀ k, evs T0 T1 m G (k * p) ∧ bs T0 T1 (k * p) m G = k * bs T0 T1 p m G := by
  intro k
  induction k with
  | zero =>
    rw [Nat.zero_mul, Nat.zero_mul]
    exact ⟨evs_zero hT, bs_zero hT G⟩
  | succ k ih =>
    have e : (k + 1) * p = p + k * p := by rw [Nat.succ_mul, Nat.add_comm]
    rw [e]
    refine ⟨evs_add hT hp ih.1, ?_⟩
    rw [bs_add hT hp (G + 1) G (by omega) (Nat.le_refl _), ih.2, Nat.succ_mul, Nat.add_comm]
theorem evs_pow (hT : ∀ g, g < m → g < T0 g ∧ g < T1 g) : ∀ G, ∃ e, e ≤ G ∧ ∀ p, evs T0 T1 m G p ↔ ∃ k, p = k * 2 ^ e := by
  intro G
  induction G with
  | zero => exact ⟨0, Nat.le_refl _, fun p => ⟨fun _ => ⟨p, by rw [Nat.pow_zero, Nat.mul_one]⟩, fun _ g hg => by omega⟩⟩
  | succ G ih =>
    obtain ⟨e, he, h⟩ := ih
    have hP : evs T0 T1 m G (2 ^ e) := (h _).mpr ⟨1, (Nat.one_mul _).symm⟩
    have hmul := fun k => (bs_mul hT hP k).2
    have key : ∀ p, evs T0 T1 m (G + 1) p ↔ ∃ k, p = k * 2 ^ e ∧ (k * bs T0 T1 (2 ^ e) m G) % 2 = 0 := fun p => by
      constructor
      · intro hp
        obtain ⟨k, rfl⟩ := (h p).mp (fun g hg => hp g (by omega))
        refine ⟨k, rfl, ?_⟩
        rw [← hmul k]
        exact hp G (by omega)
      · rintro ⟨k, rfl, hk⟩ g hg
        by_cases z : g = G
        · rw [z, hmul k]
          exact hk
        · exact (h _).mpr ⟨k, rfl⟩ g (by omega)
    by_cases z : bs T0 T1 (2 ^ e) m G % 2 = 0
    · refine ⟨e, by omega, fun p => (key p).trans ⟨fun ⟨k, h1, _⟩ => ⟨k, h1⟩, fun ⟨k, h1⟩ => ⟨k, h1, ?_⟩⟩⟩
      rw [Nat.mul_mod, z, Nat.mul_zero]
    · refine ⟨e + 1, by omega, fun p => (key p).trans ⟨fun ⟨k, h1, h2⟩ => ?_, fun ⟨k, h1⟩ => ⟨2 * k, ?_, ?_⟩⟩⟩
      · have z1 : bs T0 T1 (2 ^ e) m G % 2 = 1 := by omega
        rw [Nat.mul_mod, z1, Nat.mul_one, Nat.mod_mod] at h2
        refine ⟨k / 2, ?_⟩
        have : k = k / 2 * 2 := by omega
        rw [h1, Nat.pow_succ]
        calc k * 2 ^ e = (k / 2 * 2) * 2 ^ e := by rw [← this]
          _ = k / 2 * (2 ^ e * 2) := by rw [Nat.mul_assoc, Nat.mul_comm 2 (2 ^ e)]
      · rw [h1, Nat.pow_succ, Nat.mul_comm 2 k, Nat.mul_assoc, Nat.mul_comm (2 ^ e) 2]
      · rw [Nat.mul_assoc, Nat.mul_mod_right]
end PER
theorem same_b {d e : Nat → Int32} : rw_same d e 12 = 0 ↔ ¬ ∀ g, g < 12 → d g = e g := by
  unfold rw_same
  by_cases q : ∀ g, g < 12 → d g = e g
  · have : (List.range 12).all (fun k => decide (d k = e k)) = true := List.all_eq_true.mpr (fun g hg => decide_eq_true (q g (List.mem_range.mp hg)))
    rw [if_pos this]
    exact ⟨fun z => absurd z (by decide), fun z => absurd q z⟩
  · have : ¬ (List.range 12).all (fun k => decide (d k = e k)) = true := fun z => q (fun g hg => of_decide_eq_true (List.all_eq_true.mp z g (List.mem_range.mpr hg)))
    rw [if_neg this]
    exact ⟨fun _ => q, fun _ => rfl⟩
section PER2
variable {A : nD} {D : am_DD}
/-- the sides are as they were, if and only if all gates' counts are even -/
theorem same_even {K : Nat} {V : Nat → Nat} {Dc : am_DD} (hg : ig A) (hm : 0 < A 8 0) (hV : rl_fp (t0 A) (t1 A) (A 8 0) K V) (hR : RS A V Dc) : (∀ g, g < 12 → Dc 35 g = Dc 10 g) ↔ evs (t0 A) (t1 A) (A 8 0) (A 8 0) K := by
  have hm12 := hg.1
  have side : ∀ g, g < 12 → (Dc 35 g = Dc 10 g ↔ V g % 2 = 0) := fun g h12 => by
    have s2 := ig_sd hg h12
    have q : Dc 10 g = Int32.ofNat (sd A g) := hR.1.a10 h12
    rw [hR.2.2 g h12, q]
    unfold par
    by_cases z : V g % 2 = 0
    · rw [if_pos z]
      exact ⟨fun _ => z, fun _ => rfl⟩
    · rw [if_neg z]
      refine ⟨fun w => ?_, fun w => absurd w z⟩
      have := n_inj (by omega) (by omega) w
      omega
  constructor
  · intro w g h
    rw [← fp_bs hg hV g]
    exact (side g (by omega)).mp (w g (by omega))
  · intro w g h12
    by_cases hgm : g < A 8 0
    · have := w g hgm
      rw [← fp_bs hg hV g] at this
      exact (side g h12).mpr this
    · have z : V g = 0 := by
        rw [hV g, if_neg (by omega), rs_none (A 8 0) (fun g' hg' => ?_)]
        · have s2 := ig_sd hg (show g' < 12 by omega)
          have a := (ig_tg hg hg' s2).2.2
          have b := (ig_tg hg hg' (show 1 - sd A g' < 2 by omega)).2.2
          have a' : t0 A g' < A 8 0 ∨ 20 ≤ t0 A g' := a
          have b' : t1 A g' < A 8 0 ∨ 20 ≤ t1 A g' := b
          omega
      exact (side g h12).mpr (by rw [z])
theorem lp_53 (hg : ig A) (hm : 0 < A 8 0) : ∀ (c i N : Nat) (Dc : am_DD) (V : Nat → Nat), (i + 1) + c = 4096 → c < N → rl_fp (t0 A) (t1 A) (A 8 0) i V → RS A V Dc → (∀ i', 1 ≤ i' → i' ≤ i → ¬ evs (t0 A) (t1 A) (A 8 0) (A 8 0) i') →
    ∃ y D1, fn_53_19 N (Int32.ofNat (i + 1)) Dc = some (Int32.ofNat y, D1) ∧ rel A D1 ∧ 1 ≤ y ∧ y ≤ 4096 ∧ (∀ i', 1 ≤ i' → i' < y → ¬ evs (t0 A) (t1 A) (A 8 0) (A 8 0) i') ∧ (y < 4096 → evs (t0 A) (t1 A) (A 8 0) (A 8 0) y) := by
  intro c
  induction c with
  | zero =>
    intro i N Dc V hi hN hV hR hno
    obtain ⟨N, rfl⟩ := succ_of hN
    have q : (4096 : Int32) ≤ Int32.ofNat (i + 1) := ile (a := 4096) (by omega) (by omega) (by omega)
    refine ⟨4096, Dc, ?_, hR.1, by omega, Nat.le_refl _, fun i' h1 h2 => hno i' h1 (by omega), fun h => by omega⟩
    rw [fn_53_19, if_pos q]
    rfl
  | succ c ih =>
    intro i N Dc V hi hN hV hR hno
    obtain ⟨N, rfl⟩ := succ_of hN
    have q : ¬ (4096 : Int32) ≤ Int32.ofNat (i + 1) := nle (a := 4096) (by omega) (by omega) (by omega)
    obtain ⟨b', D1, V', i1, i2, i3, i4, i5⟩ := roll1 hg hm hV hR
    have ev := same_even hg hm i4 i3
    by_cases w : evs (t0 A) (t1 A) (A 8 0) (A 8 0) (i + 1)
    · have ns : ¬ rw_same (D1 35) (D1 10) 12 = 0 := fun z => same_b.mp z (ev.mpr w)
      refine ⟨i + 1, D1, ?_, i3.1, by omega, by omega, fun i' h1 h2 => hno i' h1 (by omega), fun _ => w⟩
      rw [fn_53_19, if_neg q, i2]
      dsimp only
      rw [if_neg ns]
    · have ns : rw_same (D1 35) (D1 10) 12 = 0 := same_b.mpr (fun z => w (ev.mp z))
      obtain ⟨y, D2, j1, j2⟩ := ih (i + 1) N D1 V' (by omega) (by omega) i4 i3 (fun i' h1 h2 => by
        by_cases e : i' = i + 1
        · rw [e]; exact w
        · exact hno i' h1 (by omega))
      refine ⟨y, D2, ?_, j2⟩
      rw [fn_53_19, if_neg q, i2]
      dsimp only
      rw [if_pos ns, nI_up]
      exact j1
/-- what the period is -/
theorem r_period (h : rel A D) (hg : ig A) (hm : 0 < A 8 0) : ∃ e D1, e ≤ 12 ∧ fn_54 D = some (Int32.ofNat (2 ^ e), D1) ∧ rel A D1 ∧ ∀ g, g < A 8 0 → ar A (2 ^ e) g % 2 = 0 := by
  obtain ⟨Dc, w1, w2⟩ := RS_0 h
  obtain ⟨y, D1, i1, i2, i3, i4, i5, i6⟩ := lp_53 hg hm 4095 0 100000 Dc _ (by omega) (by omega) fp_zero w2 (fun i' h1 h2 => by omega)
  have i1' : fn_53_19 100000 1 Dc = some (Int32.ofNat y, D1) := i1
  obtain ⟨e, he, hev⟩ := evs_pow (ig_T hg) (A 8 0)
  have hm12 := hg.1
  have p0 : 0 < 2 ^ e := Nat.pow_pos (by decide)
  have p12 : 2 ^ e ≤ 2 ^ 12 := Nat.pow_le_pow_right (by decide) (by omega)
  have pe : evs (t0 A) (t1 A) (A 8 0) (A 8 0) (2 ^ e) := (hev _).mpr ⟨1, (Nat.one_mul _).symm⟩
  have hy : y = 2 ^ e := by
    have le1 : y ≤ 2 ^ e := Nat.not_lt.mp fun z => i5 _ p0 z pe
    by_cases z : y < 4096
    · obtain ⟨k, hk⟩ := (hev y).mp (i6 z)
      have hk0 : 1 ≤ k := by
        rcases Nat.eq_zero_or_pos k with q | q
        · rw [q, Nat.zero_mul] at hk; omega
        · exact q
      have : 1 * 2 ^ e ≤ k * 2 ^ e := Nat.mul_le_mul_right _ hk0
      omega
    · omega
  refine ⟨e, D1, by omega, ?_, i2, fun g hgm => ?_⟩
  · unfold fn_54 fn_53 am_F
    rw [q_any h hm12, if_neg (show ¬ A 8 0 = 0 by omega)]
    dsimp only
    rw [if_pos i01, w1]
    dsimp only
    rw [i1', hy]
  · rw [ar_pos hm]
    exact pe g hgm
theorem r_period0 (h : rel A D) (hg : ig A) (hm : A 8 0 = 0) : fn_54 D = some (-1, D) := by
  unfold fn_54 fn_53
  rw [q_any h hg.1, if_pos hm]
  rfl
end PER2
