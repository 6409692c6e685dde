/-! what the class answers of counts, gates, bins -/
theorem ile {a b : Nat} (ha : a < 2 ^ 31) (hb : b < 2 ^ 31) (h : a ≤ b) : Int32.ofNat a ≤ Int32.ofNat b := (n_le ha hb).mpr h
theorem nle {a b : Nat} (ha : a < 2 ^ 31) (hb : b < 2 ^ 31) (h : b < a) : ¬ Int32.ofNat a ≤ Int32.ofNat b := fun z => by
  have := (n_le ha hb).mp z
  omega
theorem ilt {a b : Nat} (ha : a < 2 ^ 31) (hb : b < 2 ^ 31) (h : a < b) : Int32.ofNat a < Int32.ofNat b := (n_lt ha hb).mpr h
theorem nlt {a b : Nat} (ha : a < 2 ^ 31) (hb : b < 2 ^ 31) (h : b ≤ a) : ¬ Int32.ofNat a < Int32.ofNat b := fun z => by
  have := (n_lt ha hb).mp z
  omega
theorem ine {a b : Nat} (ha : a < 2 ^ 31) (hb : b < 2 ^ 31) (h : a ≠ b) : ¬ Int32.ofNat a = Int32.ofNat b := fun z => h (n_inj ha hb z)
theorem i01 : ¬ (1 : Int32) = 0 := by decide
theorem gx {g e : Nat} : ((2 : Int32) * Int32.ofNat g) + Int32.ofNat e = Int32.ofNat (2 * g + e) := by
  have h1 : (2 : Int32) * Int32.ofNat g = Int32.ofNat (2 * g) := n_mul 2 g
  rw [h1, n_add]
theorem succ_of {N c : Nat} (h : c < N) : ∃ n, N = n + 1 := ⟨N - 1, by omega⟩
section Q1
variable {A : nD} {D : am_DD}
theorem c_0 (h : rel A D) : fn_14 0 D = some (Int32.ofNat (A 1 0), 0, D) := by
  rw [← h.a1 (k := 0) (by decide)]; rfl
theorem c_1 (h : rel A D) : fn_14 1 D = some (Int32.ofNat (A 8 0), 0, D) := by
  rw [← h.a8]; rfl
theorem c_2 (h : rel A D) : fn_14 2 D = some (Int32.ofNat (A 1 1), 0, D) := by
  rw [← h.a1 (k := 1) (by decide)]; rfl
theorem c_3 (h : rel A D) : fn_14 3 D = some (Int32.ofNat (A 19 0), 0, D) := by
  rw [← h.a19]; rfl
theorem c_4 (h : rel A D) : fn_14 4 D = some (Int32.ofNat (A 1 2), 0, D) := by
  rw [← h.a1 (k := 2) (by decide)]; rfl
theorem c_5 (h : rel A D) : fn_14 5 D = some (Int32.ofNat (A 3 0), 0, D) := by
  have e : rw_at (D 3) 2 0 = Int32.ofNat (A 3 0) := by
    rw [← h.a3 (k := 0) (by decide)]
    exact rw_at_nI (k := 0) (by decide) (by decide)
  rw [← e]; rfl
theorem c_6 (h : rel A D) : fn_14 6 D = some (Int32.ofNat (A 3 1), 0, D) := by
  have e : rw_at (D 3) 2 1 = Int32.ofNat (A 3 1) := by
    rw [← h.a3 (k := 1) (by decide)]
    exact rw_at_nI (k := 1) (by decide) (by decide)
  rw [← e]; rfl
theorem c_7 (h : rel A D) : fn_14 7 D = some (Int32.ofNat (A 1 3), 0, D) := by
  rw [← h.a1 (k := 3) (by decide)]; rfl
theorem c_9 (h : rel A D) : fn_14 9 D = some (Int32.ofNat (A 26 2), 0, D) := by
  rw [← h.a26 (k := 2) (by decide)]; rfl
/-! gates -/
theorem q_ex (h : rel A D) (hm : A 8 0 ≤ 12) {g : Nat} (hg : g < A 8 0) : fn_34 (Int32.ofNat g) D = some (1, D) := by
  have n0 : ¬ Int32.ofNat g < 0 := nI_pos (n := g) (by omega)
  unfold fn_34
  rw [if_neg n0, h.a8, if_neg (nle (by omega) (by omega) hg)]
theorem q_nex (h : rel A D) (hm : A 8 0 ≤ 12) {g : Nat} (hg : A 8 0 ≤ g) (hg2 : g < 100) : fn_34 (Int32.ofNat g) D = some (0, D) := by
  have n0 : ¬ Int32.ofNat g < 0 := nI_pos (n := g) (by omega)
  unfold fn_34
  rw [if_neg n0, h.a8, if_pos (ile (by omega) (by omega) hg)]
theorem q_any (h : rel A D) (hm : A 8 0 ≤ 12) : fn_34 0 D = some (if A 8 0 = 0 then 0 else 1, D) := by
  by_cases z : A 8 0 = 0
  · rw [if_pos z]
    exact q_nex (g := 0) h hm (by omega) (by decide)
  · rw [if_neg z]
    exact q_ex (g := 0) h hm (by omega)
theorem q_tgt (h : rel A D) {g e : Nat} (hg : g < 12) (he : e < 2) : fn_31 (Int32.ofNat g) (Int32.ofNat e) D = some (Int32.ofNat (A 16 (2 * g + e)), D) := by
  unfold fn_31
  rw [gx, rw_at_nI (by omega) (by decide), h.a16 (by omega)]
theorem q_lv (h : rel A D) {g e : Nat} (hg : g < 12) (he : e < 2) : fn_42 (Int32.ofNat g) (Int32.ofNat e) D = some (Int32.ofNat (A 18 (2 * g + e)), D) := by
  unfold fn_42
  rw [gx, rw_at_nI (by omega) (by decide), h.a18 (by omega)]
theorem q_side (h : rel A D) {g : Nat} (hg : g < 12) : rw_at (D 10) 12 (Int32.ofNat g) = Int32.ofNat (A 10 g) := by
  rw [rw_at_nI hg (by decide), h.a10 hg]
theorem q_many (h : rel A D) (hn : A 19 0 ≤ 40) {t : Nat} (ht : t < 100) (hp : ∀ r, r < A 19 0 → A 21 r < 100) : ∀ (c i N x y : Nat), i + c = A 19 0 → c < N → y + cn (A 21) t i = x + cn (A 21) t (A 19 0) → fn_43_4 N (Int32.ofNat t) (Int32.ofNat x) (Int32.ofNat i) D = some (Int32.ofNat y, D) := by
  intro c
  induction c with
  | zero =>
    intro i N x y hi hN hy
    obtain ⟨N, rfl⟩ := succ_of hN
    have e : i = A 19 0 := by omega
    rw [e] at hy ⊢
    have : y = x := by omega
    rw [fn_43_4, h.a19, if_pos (ile (by omega) (by omega) (Nat.le_refl _)), this]
  | succ c ih =>
    intro i N x y hi hN hy
    obtain ⟨N, rfl⟩ := succ_of hN
    have hpi := hp i (by omega)
    have u : cn (A 21) t (i + 1) = cn (A 21) t i + (if A 21 i = t then 1 else 0) := rfl
    rw [fn_43_4, h.a19, if_neg (nle (by omega) (by omega) (by omega)), rw_at_nI (by omega) (by decide), h.a21 (by omega), nI_up]
    by_cases z : A 21 i = t
    · rw [if_neg (not_not_intro (by rw [z])), nI_up]
      rw [if_pos z] at u
      exact ih (i + 1) N (x + 1) y (by omega) (by omega) (by omega)
    · rw [if_pos (ine (by omega) (by omega) z), Int32.add_zero]
      rw [if_neg z] at u
      exact ih (i + 1) N x y (by omega) (by omega) (by omega)
theorem g_0 (h : rel A D) (hm : A 8 0 ≤ 12) {g : Nat} (hg : g < A 8 0) : fn_44 (Int32.ofNat g) 0 D = some (Int32.ofNat (A 10 g), 0, D) := by
  unfold fn_44
  rw [q_ex h hm hg]
  dsimp only
  rw [if_pos i01, if_pos rfl, q_side h (by omega)]
theorem g_1 (h : rel A D) (hm : A 8 0 ≤ 12) {g : Nat} (hg : g < A 8 0) : fn_44 (Int32.ofNat g) 1 D = some (Int32.ofNat (A 12 g), 0, D) := by
  unfold fn_44
  rw [q_ex h hm hg]
  dsimp only
  rw [if_pos i01, if_neg (by decide), if_pos rfl, rw_at_nI (by omega) (by decide), h.a12 (by omega)]
theorem g_2 (h : rel A D) (hm : A 8 0 ≤ 12) {g : Nat} (hg : g < A 8 0) : fn_44 (Int32.ofNat g) 2 D = some (Int32.ofNat (A 16 (2 * g)), 0, D) := by
  have e : (2 : Int32) - 2 = Int32.ofNat 0 := by decide
  unfold fn_44
  rw [q_ex h hm hg]
  dsimp only
  rw [if_pos i01, if_neg (by decide), if_neg (by decide), if_pos rfl, e, q_tgt h (by omega) (by omega)]
  rfl
theorem g_3 (h : rel A D) (hm : A 8 0 ≤ 12) {g : Nat} (hg : g < A 8 0) : fn_44 (Int32.ofNat g) 3 D = some (Int32.ofNat (A 16 (2 * g + 1)), 0, D) := by
  have e : (3 : Int32) - 2 = Int32.ofNat 1 := by decide
  unfold fn_44
  rw [q_ex h hm hg]
  dsimp only
  rw [if_pos i01, if_neg (by decide), if_neg (by decide), if_neg (by decide), if_pos rfl, e, q_tgt h (by omega) (by omega)]
theorem g_23 (h : rel A D) (hm : A 8 0 ≤ 12) {g e : Nat} (hg : g < A 8 0) (he : e < 2) : fn_44 (Int32.ofNat g) (2 + Int32.ofNat e) D = some (Int32.ofNat (A 16 (2 * g + e)), 0, D) := by
  obtain rfl | rfl : e = 0 ∨ e = 1 := by omega
  · exact g_2 h hm hg
  · exact g_3 h hm hg
theorem g_4 (h : rel A D) (hm : A 8 0 ≤ 12) {g : Nat} (hg : g < A 8 0) : fn_44 (Int32.ofNat g) 4 D = some (Int32.ofNat (A 18 (2 * g)), 0, D) := by
  have e : (4 : Int32) - 4 = Int32.ofNat 0 := by decide
  unfold fn_44
  rw [q_ex h hm hg]
  dsimp only
  rw [if_pos i01, if_neg (by decide), if_neg (by decide), if_neg (by decide), if_neg (by decide), if_pos rfl, e, q_lv h (by omega) (by omega)]
  rfl
theorem g_5 (h : rel A D) (hm : A 8 0 ≤ 12) {g : Nat} (hg : g < A 8 0) : fn_44 (Int32.ofNat g) 5 D = some (Int32.ofNat (A 18 (2 * g + 1)), 0, D) := by
  have e : (5 : Int32) - 4 = Int32.ofNat 1 := by decide
  unfold fn_44
  rw [q_ex h hm hg]
  dsimp only
  rw [if_pos i01, if_neg (by decide), if_neg (by decide), if_neg (by decide), if_neg (by decide), if_neg (by decide), if_pos rfl, e, q_lv h (by omega) (by omega)]
theorem g_6 (h : rel A D) (hi : inv A) {g : Nat} (hg : g < A 8 0) : fn_44 (Int32.ofNat g) 6 D = some (Int32.ofNat (cn (A 21) g (A 19 0)), 0, D) := by
  have hm := hi.1.1
  have hb := hi.2.1
  have hn : A 19 0 ≤ 40 := by have := hb.1; omega
  have q := q_many h hn (t := g) (by omega) (fun r hr => by have := (hb.2.2.1 r hr).1; omega) (A 19 0) 0 100000 0 (cn (A 21) g (A 19 0)) (by omega) (by omega) (by rw [cn]; omega)
  have q' : fn_43_4 100000 (Int32.ofNat g) 0 0 D = some (Int32.ofNat (cn (A 21) g (A 19 0)), D) := q
  unfold fn_44 fn_43 am_F
  rw [q_ex h hm hg]
  dsimp only
  rw [if_pos i01, if_neg (by decide), if_neg (by decide), if_neg (by decide), if_neg (by decide), if_neg (by decide), if_neg (by decide), if_pos rfl, q']
theorem g_7 (h : rel A D) (hm : A 8 0 ≤ 12) {g : Nat} (hg : g < A 8 0) : fn_44 (Int32.ofNat g) 7 D = some (Int32.ofNat (A 14 g), 0, D) := by
  unfold fn_44
  rw [q_ex h hm hg]
  dsimp only
  rw [if_pos i01, if_neg (by decide), if_neg (by decide), if_neg (by decide), if_neg (by decide), if_neg (by decide), if_neg (by decide), if_neg (by decide), if_pos rfl, rw_at_nI (by omega) (by decide), h.a14 (by omega)]
/-! bins -/
theorem q_bin {b : Nat} (hb : b < 5) : fn_30 (Int32.ofNat b) D = some (1, D) := by
  have n0 : ¬ Int32.ofNat b < 0 := nI_pos (n := b) (by omega)
  have n5 : ¬ (5 : Int32) ≤ Int32.ofNat b := nle (a := 5) (by omega) (by omega) hb
  unfold fn_30
  rw [if_neg n0, if_neg n5]
theorem b_0 (h : rel A D) {b : Nat} (hb : b < 5) : fn_33 (Int32.ofNat b) 0 D = some (Int32.ofNat (A 5 b), 0, D) := by
  unfold fn_33
  rw [q_bin hb]
  dsimp only
  rw [if_pos i01, if_pos rfl, rw_at_nI hb (by decide), h.a5 hb]
theorem b_1 (h : rel A D) {b : Nat} (hb : b < 5) : fn_33 (Int32.ofNat b) 1 D = some (Int32.ofNat (A 7 b), 0, D) := by
  unfold fn_33
  rw [q_bin hb]
  dsimp only
  rw [if_pos i01, if_neg (by decide), if_pos rfl, rw_at_nI hb (by decide), h.a7 hb]
/-- exits that lead into a bin -/
def ex (A : nD) (b : Nat) : Nat → Nat
  | 0 => 0
  | g + 1 => ex A b g + ((if A 16 (2 * g) = 20 + b then 1 else 0) + (if A 16 (2 * g + 1) = 20 + b then 1 else 0))
theorem q_exits (h : rel A D) (hg : ig A) {b : Nat} (hb : b < 5) : ∀ (c i N x y : Nat), i + c = A 8 0 → c < N → y + ex A b i = x + ex A b (A 8 0) → fn_32_4 N (Int32.ofNat b) (Int32.ofNat x) (Int32.ofNat i) D = some (Int32.ofNat y, D) := by
  have hm := hg.1
  have e20 : (20 : Int32) + Int32.ofNat b = Int32.ofNat (20 + b) := n_add 20 b
  intro c
  induction c with
  | zero =>
    intro i N x y hi hN hy
    obtain ⟨N, rfl⟩ := succ_of hN
    have e : i = A 8 0 := by omega
    rw [e] at hy ⊢
    have : y = x := by omega
    rw [fn_32_4, h.a8, if_pos (ile (by omega) (by omega) (Nat.le_refl _)), this]
  | succ c ih =>
    intro i N x y hi hN hy
    obtain ⟨N, rfl⟩ := succ_of hN
    have t0 := hg.2.2.1 i 0 (by omega) (by omega)
    have t1 := hg.2.2.1 i 1 (by omega) (by omega)
    have f0 : fn_31 (Int32.ofNat i) 0 D = some (Int32.ofNat (A 16 (2 * i + 0)), D) := q_tgt h (e := 0) (by omega) (by omega)
    have f1 : fn_31 (Int32.ofNat i) 1 D = some (Int32.ofNat (A 16 (2 * i + 1)), D) := q_tgt h (e := 1) (by omega) (by omega)
    rw [Nat.add_zero] at f0 t0
    have u : ex A b (i + 1) = ex A b i + ((if A 16 (2 * i) = 20 + b then 1 else 0) + (if A 16 (2 * i + 1) = 20 + b then 1 else 0)) := rfl
    rw [fn_32_4, h.a8, if_neg (nle (by omega) (by omega) (by omega)), f0]
    dsimp only
    rw [e20, f1]
    dsimp only
    rw [nI_up]
    by_cases z0 : A 16 (2 * i) = 20 + b
    · rw [if_neg (not_not_intro (by rw [z0]))]
      rw [if_pos z0] at u
      by_cases z1 : A 16 (2 * i + 1) = 20 + b
      · rw [if_neg (not_not_intro (by rw [z1])), nI_up, nI_up]
        rw [if_pos z1] at u
        exact ih (i + 1) N _ y (by omega) (by omega) (by omega)
      · rw [if_pos (ine (by omega) (by omega) z1), nI_up, Int32.add_zero]
        rw [if_neg z1] at u
        exact ih (i + 1) N _ y (by omega) (by omega) (by omega)
    · rw [if_pos (ine (by omega) (by omega) z0)]
      simp only [Int32.add_zero]
      rw [if_neg z0] at u
      by_cases z1 : A 16 (2 * i + 1) = 20 + b
      · rw [if_neg (not_not_intro (by rw [z1])), nI_up]
        rw [if_pos z1] at u
        exact ih (i + 1) N _ y (by omega) (by omega) (by omega)
      · rw [if_pos (ine (by omega) (by omega) z1)]
        rw [if_neg z1] at u
        exact ih (i + 1) N _ y (by omega) (by omega) (by omega)
theorem b_2 (h : rel A D) (hg : ig A) {b : Nat} (hb : b < 5) : fn_33 (Int32.ofNat b) 2 D = some (Int32.ofNat (ex A b (A 8 0)), 0, D) := by
  have q := q_exits h hg hb (A 8 0) 0 100000 0 (ex A b (A 8 0)) (by omega) (by have := hg.1; omega) (by rw [ex]; omega)
  have q' : fn_32_4 100000 (Int32.ofNat b) 0 0 D = some (Int32.ofNat (ex A b (A 8 0)), D) := q
  unfold fn_33 fn_32 am_F
  rw [q_bin hb]
  dsimp only
  rw [if_pos i01, if_neg (by decide), if_neg (by decide), if_pos rfl, q']
/-- each exit leads into one bin at most -/
theorem ex_sum : ∀ n, ex A 0 n + ex A 1 n + ex A 2 n + ex A 3 n + ex A 4 n ≤ 2 * n := by
  intro n
  induction n with
  | zero => simp [ex]
  | succ n ih =>
    have one : ∀ t : Nat, (if t = 20 + 0 then 1 else 0) + (if t = 20 + 1 then 1 else 0) + (if t = 20 + 2 then 1 else 0) + (if t = 20 + 3 then 1 else 0) + (if t = 20 + 4 then 1 else 0) ≤ 1 := fun t => by
      split <;> split <;> split <;> split <;> split <;> omega
    have h0 := one (A 16 (2 * n))
    have h1 := one (A 16 (2 * n + 1))
    unfold ex
    omega
/-! where a ball would come to lie -/
theorem q_steps (h : rel A D) (hg : ig A) : ∀ (c x t N : Nat), x + c = 12 → c < N → ((x ≤ t ∧ t < A 8 0) ∨ (20 ≤ t ∧ t < 25)) → ∃ z, fn_35_4 N (Int32.ofNat t) (Int32.ofNat x) D = some (Int32.ofNat z, D) ∧ x ≤ z ∧ z ≤ x + (A 8 0 - t) ∧ (t < A 8 0 → x < z) := by
  have hm := hg.1
  have last : ∀ (x t N : Nat), x ≤ 12 → 0 < N → (20 ≤ t ∧ t < 25) → ∃ z, fn_35_4 N (Int32.ofNat t) (Int32.ofNat x) D = some (Int32.ofNat z, D) ∧ x ≤ z ∧ z ≤ x + (A 8 0 - t) ∧ (t < A 8 0 → x < z) := by
    intro x t N hx hN ht
    obtain ⟨N, rfl⟩ := succ_of hN
    refine ⟨x, ?_, Nat.le_refl _, by omega, fun z => by omega⟩
    rw [fn_35_4, q_nex h hm (by omega) (by omega)]
    dsimp only
    rw [if_pos rfl]
    split <;> rfl
  intro c
  induction c with
  | zero =>
    intro x t N hx hN ht
    exact last x t N (by omega) hN (by omega)
  | succ c ih =>
    intro x t N hx hN ht
    rcases ht with ht | ht
    · obtain ⟨N, rfl⟩ := succ_of hN
      have n12 : ¬ (12 : Int32) ≤ Int32.ofNat x := nle (a := 12) (by omega) (by omega) (by omega)
      have hs := (hg.2.1 t ht.2).2.1
      have tt := hg.2.2.1 t (A 10 t) ht.2 (by omega)
      obtain ⟨z, z1, z2, z3, z4⟩ := ih (x + 1) (A 16 (2 * t + A 10 t)) N (by omega) (by omega) (by omega)
      refine ⟨z, ?_, by omega, by omega, fun _ => by omega⟩
      rw [fn_35_4, if_neg n12, q_ex h hm ht.2]
      dsimp only
      rw [if_neg i01, q_side h (by omega), q_tgt h (by omega) (by omega)]
      dsimp only
      rw [nI_up]
      exact z1
    · exact last x t N (by omega) (by omega) ht
theorem q_lies (h : rel A D) (hg : ig A) : ∀ (c x t N : Nat), x + c = 12 → c < N → ((x ≤ t ∧ t < A 8 0) ∨ (20 ≤ t ∧ t < 25)) → ∃ z, fn_36_4 N (Int32.ofNat t) (Int32.ofNat x) D = some (Int32.ofNat z, D) ∧ z < 5 := by
  have hm := hg.1
  have last : ∀ (x t N : Nat), x ≤ 12 → 0 < N → (20 ≤ t ∧ t < 25) → ∃ z, fn_36_4 N (Int32.ofNat t) (Int32.ofNat x) D = some (Int32.ofNat z, D) ∧ z < 5 := by
    intro x t N hx hN ht
    obtain ⟨N, rfl⟩ := succ_of hN
    have e20 : Int32.ofNat t - 20 = Int32.ofNat (t - 20) := n_sub (b := 20) (by omega) (by omega)
    refine ⟨t - 20, ?_, by omega⟩
    rw [fn_36_4, q_nex h hm (by omega) (by omega), e20]
    dsimp only
    rw [if_pos rfl]
    split <;> rfl
  intro c
  induction c with
  | zero =>
    intro x t N hx hN ht
    exact last x t N (by omega) hN (by omega)
  | succ c ih =>
    intro x t N hx hN ht
    rcases ht with ht | ht
    · obtain ⟨N, rfl⟩ := succ_of hN
      have n12 : ¬ (12 : Int32) ≤ Int32.ofNat x := nle (a := 12) (by omega) (by omega) (by omega)
      have hs := (hg.2.1 t ht.2).2.1
      have tt := hg.2.2.1 t (A 10 t) ht.2 (by omega)
      obtain ⟨z, z1, z2⟩ := ih (x + 1) (A 16 (2 * t + A 10 t)) N (by omega) (by omega) (by omega)
      refine ⟨z, ?_, z2⟩
      rw [fn_36_4, if_neg n12, q_ex h hm ht.2]
      dsimp only
      rw [if_neg i01, q_side h (by omega), q_tgt h (by omega) (by omega)]
      dsimp only
      rw [nI_up]
      exact z1
    · exact last x t N (by omega) (by omega) ht
/-! balls -/
theorem bl_in (h : rel A D) (hi : inv A) {r : Nat} (hr : r < A 19 0) : ¬ Int32.ofNat r < 0 ∧ Int32.ofNat r < D 19 0 := by
  have := hi.2.1.1
  refine ⟨nI_pos (n := r) (by omega), ?_⟩
  rw [h.a19]
  exact ilt (by omega) (by omega) hr
theorem bl_0 (h : rel A D) (hi : inv A) {r : Nat} (hr : r < A 19 0) : fn_37 (Int32.ofNat r) 0 D = some (Int32.ofNat (A 21 r), 0, D) := by
  have := hi.2.1.1
  obtain ⟨h1, h2⟩ := bl_in h hi hr
  unfold fn_37
  rw [if_neg h1, if_neg (by decide), if_pos (by decide), if_pos h2, if_pos rfl, rw_at_nI (by omega) (by decide), h.a21 (by omega)]
theorem bl_1 (h : rel A D) (hi : inv A) {r : Nat} (hr : r < A 19 0) : fn_37 (Int32.ofNat r) 1 D = some (Int32.ofNat (A 23 r), 0, D) := by
  have := hi.2.1.1
  obtain ⟨h1, h2⟩ := bl_in h hi hr
  unfold fn_37
  rw [if_neg h1, if_neg (by decide), if_pos (by decide), if_pos h2, if_neg (by decide), if_pos rfl, rw_at_nI (by omega) (by decide), h.a23 (by omega)]
theorem bl_2 (h : rel A D) (hi : inv A) {r : Nat} (hr : r < A 19 0) : fn_37 (Int32.ofNat r) 2 D = some (Int32.ofNat (A 25 r), 0, D) := by
  have := hi.2.1.1
  obtain ⟨h1, h2⟩ := bl_in h hi hr
  unfold fn_37
  rw [if_neg h1, if_neg (by decide), if_pos (by decide), if_pos h2, if_neg (by decide), if_neg (by decide), if_pos rfl, rw_at_nI (by omega) (by decide), h.a25 (by omega)]
theorem bl_3 (h : rel A D) (hi : inv A) {r : Nat} (hr : r < A 19 0) : ∃ z, fn_37 (Int32.ofNat r) 3 D = some (Int32.ofNat z, 0, D) ∧ 1 ≤ z ∧ z ≤ A 8 0 - A 21 r := by
  have := hi.2.1.1
  have hm := hi.1.1
  have hp := (hi.2.1.2.2.1 r hr).1
  obtain ⟨h1, h2⟩ := bl_in h hi hr
  obtain ⟨z, z1, z2, z3, z4⟩ := q_steps h hi.1 12 0 (A 21 r) 100000 (by omega) (by omega) (Or.inl ⟨Nat.zero_le _, hp⟩)
  have z1' : fn_35_4 100000 (Int32.ofNat (A 21 r)) 0 D = some (Int32.ofNat z, D) := z1
  refine ⟨z, ?_, z4 hp, by omega⟩
  unfold fn_37 fn_35 am_F
  rw [if_neg h1, if_neg (by decide), if_pos (by decide), if_pos h2, if_neg (by decide), if_neg (by decide), if_neg (by decide), if_pos rfl, rw_at_nI (by omega) (by decide), h.a21 (by omega), z1']
theorem bl_4 (h : rel A D) (hi : inv A) {r : Nat} (hr : r < A 19 0) : ∃ z, fn_37 (Int32.ofNat r) 4 D = some (Int32.ofNat z, 0, D) ∧ z < 5 := by
  have := hi.2.1.1
  have hm := hi.1.1
  have hp := (hi.2.1.2.2.1 r hr).1
  obtain ⟨h1, h2⟩ := bl_in h hi hr
  obtain ⟨z, z1, z2⟩ := q_lies h hi.1 12 0 (A 21 r) 100000 (by omega) (by omega) (Or.inl ⟨Nat.zero_le _, hp⟩)
  have z1' : fn_36_4 100000 (Int32.ofNat (A 21 r)) 0 D = some (Int32.ofNat z, D) := z1
  refine ⟨z, ?_, z2⟩
  unfold fn_37 fn_36 am_F
  rw [if_neg h1, if_neg (by decide), if_pos (by decide), if_pos h2, if_neg (by decide), if_neg (by decide), if_neg (by decide), if_neg (by decide), rw_at_nI (by omega) (by decide), h.a21 (by omega), z1']
end Q1
