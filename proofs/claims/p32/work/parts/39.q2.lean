/-! what the class answers of notes -/
theorem rw_put_row {D : am_DD} {q n a : Nat} {i v : Int32} (h : a ≠ q) : rw_put D q n i v a = D a := by
  unfold rw_put
  split
  · rfl
  · split
    · rfl
    · exact u_row h
theorem sh_smod : ∀ p, p < 32 → ((Int32.ofNat p &&& 31).toBitVec.smod 32).toNat = p := by decide +kernel
theorem sh_one : ∀ p, p < 31 → ((1 : Int32) <<< (Int32.ofNat p &&& 31)).toBitVec.getLsbD p = true := by decide +kernel
theorem bt_get {M : Int32} {p : Nat} (hp : p < 31) (h : M.toBitVec.getLsbD p = true) : ¬ ((M >>> (Int32.ofNat p &&& 31)) &&& 1) = 0 := by
  intro hz
  have h1 : (M >>> (Int32.ofNat p &&& 31)).toBitVec = M.toBitVec.sshiftRight ((Int32.ofNat p &&& 31).toBitVec.smod 32).toNat := rfl
  rw [sh_smod p (by omega)] at h1
  have h2 := congrArg (fun x : Int32 => x.toBitVec.getLsbD 0) hz
  simp only [Int32.toBitVec_and, BitVec.getLsbD_and, h1, BitVec.getLsbD_sshiftRight] at h2
  rw [if_pos (by omega), Nat.add_zero, h] at h2
  exact absurd h2 (by decide)
theorem bt_or {M X : Int32} {p : Nat} (h : M.toBitVec.getLsbD p = true ∨ X.toBitVec.getLsbD p = true) : (M ||| X).toBitVec.getLsbD p = true := by
  rw [Int32.toBitVec_or, BitVec.getLsbD_or]
  rcases h with h | h
  · rw [h, Bool.true_or]
  · rw [h, Bool.or_true]
section Q2
variable {A : nD} {D : am_DD}
theorem nt_16 (h : rel A D) (ho : A 26 0 < 60) {q : Nat} (hq : q < 1000) : fn_16 (Int32.ofNat q) D = some (Int32.ofNat ((A 26 0 + q) % 60), D) := by
  unfold fn_16
  rw [h.a26 (by omega), n_add]
  have := n_mod (a := A 26 0 + q) (b := 60) (by omega) (by omega) (by omega)
  rw [← this]
  rfl
theorem nt_22 (h : rel A D) (ho : A 26 0 < 60) {q : Nat} (hq : q < 1000) : fn_22 (Int32.ofNat q) D = some (Int32.ofNat (nb A q), D) := by
  unfold fn_22
  rw [nt_16 h ho hq]
  dsimp only
  rw [rw_at_nI (Nat.mod_lt _ (by decide)) (by decide), h.a28 (Nat.mod_lt _ (by decide))]
  rfl
theorem nt_17 (h : rel A D) (ho : A 26 0 < 60) {q : Nat} (hq : q < 1000) : fn_17 (Int32.ofNat q) D = some (Int32.ofNat (np A q), D) := by
  unfold fn_17
  rw [nt_16 h ho hq]
  dsimp only
  rw [rw_at_nI (Nat.mod_lt _ (by decide)) (by decide), h.a32 (Nat.mod_lt _ (by decide))]
  rfl
theorem im_kp (hi : im A) : A 26 1 ≤ 60 := by rw [hi.2.1]; omega
theorem n_rank {kp i : Nat} (hk : kp ≤ 60) (hi : i < kp) : (Int32.ofNat kp - 1) - Int32.ofNat i = Int32.ofNat (kp - 1 - i) := by
  have e1 : Int32.ofNat kp - 1 = Int32.ofNat (kp - 1) := n_sub (b := 1) (by omega) (by omega)
  rw [e1, n_sub (by omega) (by omega)]
theorem n_0 (h : rel A D) (hi : im A) {i : Nat} (hk : i < A 26 1) : fn_39 (Int32.ofNat i) 0 D = some (Int32.ofNat (nb A (A 26 1 - 1 - i)), 0, D) := by
  have hkp := im_kp hi
  have n0 : ¬ Int32.ofNat i < 0 := nI_pos (n := i) (by omega)
  unfold fn_39
  rw [if_neg n0, if_neg (by decide), if_pos (by decide), h.a26 (by omega), if_pos (ilt (by omega) (by omega) hk), if_pos rfl, n_rank hkp hk, nt_22 h hi.2.2.1 (by omega)]
theorem n_2 (h : rel A D) (hi : im A) {i : Nat} (hk : i < A 26 1) : fn_39 (Int32.ofNat i) 2 D = some (Int32.ofNat (np A (A 26 1 - 1 - i)), 0, D) := by
  have hkp := im_kp hi
  have n0 : ¬ Int32.ofNat i < 0 := nI_pos (n := i) (by omega)
  unfold fn_39
  rw [if_neg n0, if_neg (by decide), if_pos (by decide), h.a26 (by omega), if_pos (ilt (by omega) (by omega) hk), if_neg (by decide), if_neg (by decide), n_rank hkp hk, nt_17 h hi.2.2.1 (by omega)]
theorem n_end (h : rel A D) (hi : im A) : fn_39 (Int32.ofNat (A 26 1)) 0 D = some (-1, 0, D) := by
  have hkp := im_kp hi
  have n0 : ¬ Int32.ofNat (A 26 1) < 0 := nI_pos (n := A 26 1) (by omega)
  unfold fn_39
  rw [if_neg n0, if_neg (by decide), if_pos (by decide), h.a26 (by omega), if_neg (nlt (by omega) (by omega) (Nat.le_refl _))]
/-! a chord holds each of its notes -/
theorem q_chord (h : rel A D) (hi : im A) (hB : A 1 0 < 2 ^ 24) {b : Nat} (hb : b < 2 ^ 24) : ∀ (c i N : Nat) (x : Int32), i + c = A 26 1 → c < N → ∃ y, fn_40_4 N (Int32.ofNat b) x (Int32.ofNat i) D = some (y, D) ∧ (∀ p, x.toBitVec.getLsbD p = true → y.toBitVec.getLsbD p = true) ∧ ∀ q, i ≤ q → q < A 26 1 → nb A q = b → y.toBitVec.getLsbD (np A q) = true := by
  have hkp := im_kp hi
  intro c
  induction c with
  | zero =>
    intro i N x hic hN
    obtain ⟨N, rfl⟩ := succ_of hN
    refine ⟨x, ?_, fun _ z => z, fun q h1 h2 => by omega⟩
    rw [fn_40_4, h.a26 (by omega), if_pos (ile (by omega) (by omega) (by omega))]
  | succ c ih =>
    intro i N x hic hN
    obtain ⟨N, rfl⟩ := succ_of hN
    obtain ⟨hq1, hq2⟩ := hi.2.2.2.1 i (by omega)
    rw [fn_40_4, h.a26 (by omega), if_neg (nle (by omega) (by omega) (by omega)), nt_22 h hi.2.2.1 (by omega)]
    dsimp only
    rw [nI_up]
    by_cases z : nb A i = b
    · rw [if_neg (not_not_intro (by rw [z])), nt_17 h hi.2.2.1 (by omega)]
      dsimp only
      obtain ⟨y, y1, y2, y3⟩ := ih (i + 1) N (x ||| (1 <<< (Int32.ofNat (np A i) &&& 31))) (by omega) (by omega)
      refine ⟨y, y1, fun p hp => y2 p (bt_or (Or.inl hp)), fun q h1 h2 h3 => ?_⟩
      by_cases w : q = i
      · rw [w]
        exact y2 _ (bt_or (Or.inr (sh_one _ (by omega))))
      · exact y3 q (by omega) h2 h3
    · rw [if_pos (ine (by omega) (by omega) z)]
      obtain ⟨y, y1, y2, y3⟩ := ih (i + 1) N x (by omega) (by omega)
      refine ⟨y, y1, y2, fun q h1 h2 h3 => ?_⟩
      by_cases w : q = i
      · rw [w] at h3
        exact absurd h3 z
      · exact y3 q (by omega) h2 h3
theorem ch_of (h : rel A D) (hi : im A) (hB : A 1 0 < 2 ^ 24) {q : Nat} (hq : q < A 26 1) : ∃ y, fn_41 (Int32.ofNat (nb A q)) D = some (y, 0, D) ∧ ¬ ((y >>> (Int32.ofNat (np A q) &&& 31)) &&& 1) = 0 := by
  have hkp := im_kp hi
  obtain ⟨hq1, hq2⟩ := hi.2.2.2.1 q hq
  obtain ⟨y, y1, -, y3⟩ := q_chord h hi hB (b := nb A q) (by omega) (A 26 1) 0 100000 0 (by omega) (by omega)
  have y1' : fn_40_4 100000 (Int32.ofNat (nb A q)) 0 0 D = some (y, D) := y1
  have p0 : (0 : Int32) ≤ Int32.ofNat (nb A q) := ile (a := 0) (by omega) (by omega) (Nat.zero_le _)
  refine ⟨y, ?_, bt_get (by omega) (y3 q (Nat.zero_le _) hq rfl)⟩
  unfold fn_41 fn_40 am_F
  rw [if_pos p0, y1']
/-! steps upward and downward -/
def stc (R : Nat → Nat → Bool) (f : Nat → Nat) : Nat → Nat
  | 0 => 0
  | k + 1 => stc R f k + (if 1 ≤ k ∧ R (f k) (f (k - 1)) = true then 1 else 0)
theorem q_st (h : rel A D) (hi : im A) {d : Int32} {R : Nat → Nat → Bool} (hR : ∀ a, a < 31 → ∀ b, b < 31 → ((((Int32.ofNat a - Int32.ofNat b) * d) ≤ 0) ↔ R a b = false)) : ∀ (c i N x y : Nat), i + c = A 26 1 → 1 ≤ i → c < N → y + stc R (np A) i = x + stc R (np A) (A 26 1) → fn_28_4 N d (Int32.ofNat x) (Int32.ofNat i) D = some (Int32.ofNat y, D) := by
  have hkp := im_kp hi
  intro c
  induction c with
  | zero =>
    intro i N x y hic h1 hN hy
    obtain ⟨N, rfl⟩ := succ_of hN
    have e : i = A 26 1 := by omega
    rw [e] at hy ⊢
    have : y = x := by omega
    rw [fn_28_4, h.a26 (by omega), if_pos (ile (by omega) (by omega) (Nat.le_refl _)), this]
  | succ c ih =>
    intro i N x y hic h1 hN hy
    obtain ⟨N, rfl⟩ := succ_of hN
    have e1 : Int32.ofNat i - 1 = Int32.ofNat (i - 1) := n_sub (b := 1) (by omega) (by omega)
    have p1 := (hi.2.2.2.1 i (by omega)).2
    have p2 := (hi.2.2.2.1 (i - 1) (by omega)).2
    have u : stc R (np A) (i + 1) = stc R (np A) i + (if 1 ≤ i ∧ R (np A i) (np A (i - 1)) = true then 1 else 0) := rfl
    have hr := hR (np A i) (by omega) (np A (i - 1)) (by omega)
    rw [fn_28_4, h.a26 (by omega), if_neg (nle (by omega) (by omega) (by omega)), nt_17 h hi.2.2.1 (by omega)]
    dsimp only
    rw [e1, nt_17 h hi.2.2.1 (by omega)]
    dsimp only
    rw [nI_up]
    by_cases z : R (np A i) (np A (i - 1)) = true
    · rw [if_neg (fun w => by rw [hr.mp w] at z; cases z), nI_up]
      rw [if_pos ⟨h1, z⟩] at u
      exact ih (i + 1) N (x + 1) y (by omega) (by omega) (by omega) (by omega)
    · rw [if_pos (hr.mpr (Bool.eq_false_iff.mpr z)), Int32.add_zero]
      rw [if_neg (fun w => z w.2)] at u
      exact ih (i + 1) N x y (by omega) (by omega) (by omega) (by omega)
theorem st_up : ∀ a, a < 31 → ∀ b, b < 31 → ((((Int32.ofNat a - Int32.ofNat b) * 1) ≤ 0) ↔ decide (b < a) = false) := by decide +kernel
theorem st_dn : ∀ a, a < 31 → ∀ b, b < 31 → ((((Int32.ofNat a - Int32.ofNat b) * (-1)) ≤ 0) ↔ decide (a < b) = false) := by decide +kernel
theorem q_steps28 (h : rel A D) (hi : im A) {d : Int32} {R : Nat → Nat → Bool} (hR : ∀ a, a < 31 → ∀ b, b < 31 → ((((Int32.ofNat a - Int32.ofNat b) * d) ≤ 0) ↔ R a b = false)) : fn_28 d D = some (Int32.ofNat (stc R (np A) (A 26 1)), D) := by
  have hkp := im_kp hi
  unfold fn_28 am_F
  by_cases z : A 26 1 = 0
  · have e : stc R (np A) (A 26 1) = 0 := by rw [z]; rfl
    rw [e]
    show fn_28_4 (99999 + 1) d 0 1 D = _
    rw [fn_28_4, h.a26 (by omega), z, if_pos (by decide)]
    rfl
  · exact q_st h hi hR (A 26 1 - 1) 1 100000 0 (stc R (np A) (A 26 1)) (by omega) (Nat.le_refl _) (by omega) (by
      have : stc R (np A) 1 = 0 := by unfold stc stc; simp
      omega)
theorem stc_sum {f : Nat → Nat} : ∀ n, stc (fun a b => decide (b < a)) f n + stc (fun a b => decide (a < b)) f n ≤ n - 1 := by
  intro n
  induction n with
  | zero => exact Nat.le_refl _
  | succ n ih =>
    unfold stc
    simp only [decide_eq_true_eq]
    by_cases z : 1 ≤ n
    · have : (if 1 ≤ n ∧ f (n - 1) < f n then 1 else 0) + (if 1 ≤ n ∧ f n < f (n - 1) then 1 else 0) ≤ 1 := by
        split <;> split <;> omega
      omega
    · rw [if_neg (fun w => z w.1), if_neg (fun w => z w.1)]
      omega
theorem no_0 (h : rel A D) : fn_29 0 D = some (Int32.ofNat (A 26 1), 0, D) := by
  rw [← h.a26 (k := 1) (by decide)]; rfl
theorem no_5 (h : rel A D) (hi : im A) : fn_29 5 D = some (Int32.ofNat (stc (fun a b => decide (b < a)) (np A) (A 26 1)), 0, D) := by
  unfold fn_29
  rw [if_neg (by decide), if_neg (by decide), if_neg (by decide), if_neg (by decide), if_neg (by decide), if_pos rfl, q_steps28 h hi st_up]
theorem no_6 (h : rel A D) (hi : im A) : fn_29 6 D = some (Int32.ofNat (stc (fun a b => decide (a < b)) (np A) (A 26 1)), 0, D) := by
  unfold fn_29
  rw [if_neg (by decide), if_neg (by decide), if_neg (by decide), if_neg (by decide), if_neg (by decide), if_neg (by decide), if_pos rfl, q_steps28 h hi st_dn]
/-! chords: no more than notes -/
theorem rel.scr {D' : am_DD} (h : rel A D) (hD : ∀ a, a < 33 ∨ a = 56 → D' a = D a) : rel A D' := h.row hD
theorem q_gath (hi : im A) : ∀ (c i N cc : Nat) (x1 : Int32) (D : am_DD), rel A D → i + c = A 26 1 → c < N → D 40 3 = Int32.ofNat cc → cc ≤ i → ∃ D' c', fn_23_9 N x1 (Int32.ofNat i) D = some (0, D') ∧ D' 40 3 = Int32.ofNat c' ∧ c' ≤ A 26 1 ∧ rel A D' := by
  have hkp := im_kp hi
  intro c
  induction c with
  | zero =>
    intro i N cc x1 D h hic hN hc hcc
    obtain ⟨N, rfl⟩ := succ_of hN
    refine ⟨D, cc, ?_, hc, by omega, h⟩
    rw [fn_23_9, h.a26 (by omega), if_pos (ile (by omega) (by omega) (by omega))]
  | succ c ih =>
    intro i N cc x1 D h hic hN hc hcc
    obtain ⟨N, rfl⟩ := succ_of hN
    have up : ∀ (v i2 : Int32), ∃ D' c', fn_23_9 N 0 (Int32.ofNat (i + 1)) (am_upd (rw_put D 44 60 (D 40 3) v) 40 3 (((rw_put D 44 60 (D 40 3) v) 40 3) + 1)) = some (0, D') ∧ D' 40 3 = Int32.ofNat c' ∧ c' ≤ A 26 1 ∧ rel A D' := fun v _ => by
      have e : (rw_put D 44 60 (D 40 3) v) 40 3 = Int32.ofNat cc := by rw [rw_put_row (by omega), hc]
      rw [e, nI_up]
      exact ih (i + 1) N (cc + 1) 0 _ (h.row fun a ha => by rw [u_row (by omega), rw_put_row (by omega)]) (by omega) (by omega) (u_self _ _ _ _) (by omega)
    rw [fn_23_9, h.a26 (by omega), if_neg (nle (by omega) (by omega) (by omega)), nt_17 h hi.2.2.1 (by omega)]
    dsimp only
    rw [h.a26 (by omega), nI_up]
    split
    · exact up _ 0
    · rw [nt_22 h hi.2.2.1 (by omega)]
      dsimp only
      rw [nt_22 h hi.2.2.1 (by omega)]
      dsimp only
      split
      · exact ih (i + 1) N cc _ D h (by omega) (by omega) hc (by omega)
      · exact up _ 0
theorem q_first {i : Nat} (hi : i ≤ 60) : ∀ (c j N : Nat), j + c = i → c < N → ∃ r, (r = 0 ∨ r = 1) ∧ fn_24_2 N (Int32.ofNat i) (Int32.ofNat j) D = some (r, D) := by
  intro c
  induction c with
  | zero =>
    intro j N hj hN
    obtain ⟨N, rfl⟩ := succ_of hN
    refine ⟨1, Or.inr rfl, ?_⟩
    rw [fn_24_2, if_pos (ile (by omega) (by omega) (by omega))]
  | succ c ih =>
    intro j N hj hN
    obtain ⟨N, rfl⟩ := succ_of hN
    rw [fn_24_2, if_neg (nle (by omega) (by omega) (by omega)), nI_up]
    split
    · exact ih (j + 1) N (by omega) (by omega)
    · exact ⟨0, Or.inl rfl, rfl⟩
theorem q_diff {cc : Nat} (hc : D 40 3 = Int32.ofNat cc) (hcc : cc ≤ 60) : ∀ (c i N x : Nat), i + c = cc → c < N → ∃ y, fn_25_8 N (Int32.ofNat x) (Int32.ofNat i) D = some (Int32.ofNat y, D) ∧ y ≤ x + c := by
  intro c
  induction c with
  | zero =>
    intro i N x hic hN
    obtain ⟨N, rfl⟩ := succ_of hN
    refine ⟨x, ?_, Nat.le_refl _⟩
    rw [fn_25_8, hc, if_pos (ile (by omega) (by omega) (by omega))]
  | succ c ih =>
    intro i N x hic hN
    obtain ⟨N, rfl⟩ := succ_of hN
    obtain ⟨r, hr, r1⟩ := q_first (D := D) (i := i) (by omega) i 0 100000 (by omega) (by omega)
    have r1' : fn_24_2 100000 (Int32.ofNat i) 0 D = some (r, D) := r1
    rw [fn_25_8, hc, if_neg (nle (by omega) (by omega) (by omega))]
    unfold fn_24 am_F
    rw [r1']
    dsimp only
    rw [nI_up]
    rcases hr with rfl | rfl
    · rw [if_pos rfl, Int32.add_zero]
      obtain ⟨y, y1, y2⟩ := ih (i + 1) N x (by omega) (by omega)
      exact ⟨y, y1, by omega⟩
    · rw [if_neg i01, nI_up]
      obtain ⟨y, y1, y2⟩ := ih (i + 1) N (x + 1) (by omega) (by omega)
      exact ⟨y, y1, by omega⟩
theorem no_3 (h : rel A D) (hi : im A) : ∃ y D', fn_29 3 D = some (Int32.ofNat y, 0, D') ∧ y ≤ A 26 1 ∧ rel A D' := by
  have hkp := im_kp hi
  obtain ⟨D', c', d1, d2, d3, d4⟩ := q_gath hi (A 26 1) 0 100000 0 0 (am_upd D 40 3 0) (h.row fun a ha => u_row (by omega)) (by omega) (by omega) (u_self _ _ _ _) (Nat.le_refl _)
  have d1' : fn_23_9 100000 0 0 (am_upd D 40 3 0) = some (0, D') := d1
  obtain ⟨y, y1, y2⟩ := q_diff d2 (by omega) c' 0 100000 0 (by omega) (by omega)
  have y1' : fn_25_8 100000 0 0 D' = some (Int32.ofNat y, D') := y1
  refine ⟨y, D', ?_, by omega, d4⟩
  unfold fn_29 fn_25 fn_23 am_F
  rw [if_neg (by decide), if_neg (by decide), if_neg (by decide), if_pos rfl, d1']
  dsimp only
  rw [y1']
/-! the ways -/
/-- what wayLength writes, gate by gate from the last on -/
def wl (mx : Bool) (T : Nat → Nat → Nat) (m : Nat) : Nat → Nat → Nat
  | 0, _ => 0
  | c + 1, j => if j = m - 1 - c then 1 + (if mx = true then max (wl mx T m c (T (m - 1 - c) 0)) (wl mx T m c (T (m - 1 - c) 1)) else min (wl mx T m c (T (m - 1 - c) 0)) (wl mx T m c (T (m - 1 - c) 1))) else wl mx T m c j
theorem wl_le {mx : Bool} {T : Nat → Nat → Nat} {m : Nat} : ∀ c j, wl mx T m c j ≤ c := by
  intro c
  induction c with
  | zero => intro j; exact Nat.le_refl _
  | succ c ih =>
    intro j
    have h0 := ih (T (m - 1 - c) 0)
    have h1 := ih (T (m - 1 - c) 1)
    have h2 := ih j
    unfold wl
    split
    · split <;> omega
    · omega
theorem wl_mono {T : Nat → Nat → Nat} {m : Nat} : ∀ c j, wl false T m c j ≤ wl true T m c j := by
  intro c
  induction c with
  | zero => intro j; exact Nat.le_refl _
  | succ c ih =>
    intro j
    have h0 := ih (T (m - 1 - c) 0)
    have h1 := ih (T (m - 1 - c) 1)
    have h2 := ih j
    unfold wl
    split
    · rw [if_neg (by decide), if_pos rfl]
      omega
    · exact h2
theorem wl_pos {mx : Bool} {T : Nat → Nat → Nat} {m : Nat} (hm : 0 < m) : 1 ≤ wl mx T m m 0 := by
  obtain ⟨c, rfl⟩ : ∃ c, m = c + 1 := ⟨m - 1, by omega⟩
  unfold wl
  rw [if_pos (by omega)]
  omega
end Q2
theorem q_way {A : nD} {mx : Bool} (hg : ig A) : ∀ (g c N : Nat) (D : am_DD), rel A D → g + c = A 8 0 → g < N → (∀ j, j < 25 → D 39 j = Int32.ofNat (wl mx (fun g e => A 16 (2 * g + e)) (A 8 0) c j)) → ∃ D', fn_46_17 N (if mx = true then 1 else 0) (Int32.ofNat g - 1) D = some (Int32.ofNat (wl mx (fun g e => A 16 (2 * g + e)) (A 8 0) (A 8 0) 0), D') ∧ rel A D' := by
  have hm := hg.1
  intro g
  induction g with
  | zero =>
    intro c N D h hgc hN hD
    obtain ⟨N, rfl⟩ := succ_of hN
    have e : c = A 8 0 := by omega
    subst e
    refine ⟨D, ?_, h⟩
    rw [fn_46_17, if_pos (by decide)]
    have r0 : rw_at (D 39) 25 0 = D 39 0 := rw_at_nI (k := 0) (by decide) (by decide)
    rw [r0, hD 0 (by omega)]
  | succ g ih =>
    intro c N D h hgc hN hD
    obtain ⟨N, rfl⟩ := succ_of hN
    have e1 : Int32.ofNat (g + 1) - 1 = Int32.ofNat g := n_sub (b := 1) (by omega) (by omega)
    have e2 : Int32.ofNat g + -1 = Int32.ofNat g - 1 := (Int32.sub_eq_add_neg _ _).symm
    have n0 : ¬ Int32.ofNat g < 0 := nI_pos (n := g) (by omega)
    have t0 := hg.2.2.1 g 0 (by omega) (by omega)
    have t1 := hg.2.2.1 g 1 (by omega) (by omega)
    have f0 : fn_31 (Int32.ofNat g) 0 D = some (Int32.ofNat (A 16 (2 * g + 0)), D) := q_tgt h (e := 0) (by omega) (by omega)
    have f1 : fn_31 (Int32.ofNat g) 1 D = some (Int32.ofNat (A 16 (2 * g + 1)), D) := q_tgt h (e := 1) (by omega) (by omega)
    have b0 := wl_le (mx := mx) (T := fun g e => A 16 (2 * g + e)) (m := A 8 0) c (A 16 (2 * g + 0))
    have b1 := wl_le (mx := mx) (T := fun g e => A 16 (2 * g + e)) (m := A 8 0) c (A 16 (2 * g + 1))
    have r0 : rw_at (D 39) 25 (Int32.ofNat (A 16 (2 * g + 0))) = Int32.ofNat (wl mx (fun g e => A 16 (2 * g + e)) (A 8 0) c (A 16 (2 * g + 0))) := by rw [rw_at_nI (by omega) (by decide), hD _ (by omega)]
    have r1 : rw_at (D 39) 25 (Int32.ofNat (A 16 (2 * g + 1))) = Int32.ofNat (wl mx (fun g e => A 16 (2 * g + e)) (A 8 0) c (A 16 (2 * g + 1))) := by rw [rw_at_nI (by omega) (by decide), hD _ (by omega)]
    have goon : ∀ v : Nat, v = 1 + (if mx = true then max (wl mx (fun g e => A 16 (2 * g + e)) (A 8 0) c (A 16 (2 * g + 0))) (wl mx (fun g e => A 16 (2 * g + e)) (A 8 0) c (A 16 (2 * g + 1))) else min (wl mx (fun g e => A 16 (2 * g + e)) (A 8 0) c (A 16 (2 * g + 0))) (wl mx (fun g e => A 16 (2 * g + e)) (A 8 0) c (A 16 (2 * g + 1)))) → ∃ D', fn_46_17 N (if mx = true then 1 else 0) (Int32.ofNat g - 1) (rw_put D 39 25 (Int32.ofNat g) (Int32.ofNat v)) = some (Int32.ofNat (wl mx (fun g e => A 16 (2 * g + e)) (A 8 0) (A 8 0) 0), D') ∧ rel A D' := fun v hv => by
      rw [rw_put_nI (by omega) (by decide)]
      refine ih (c + 1) N _ (h.row fun a ha => u_row (by omega)) (by omega) (by omega) (fun j hj => ?_)
      have eg : A 8 0 - 1 - c = g := by omega
      unfold wl
      rw [eg]
      by_cases z : j = g
      · rw [if_pos z, z, u_self, hv]
      · rw [if_neg z, u_ne (fun w => z w.2), hD j hj]
    rw [fn_46_17, e1, if_neg n0, f0]
    dsimp only
    rw [f1]
    dsimp only
    rw [e2, r0, r1]
    have one : ∀ v : Nat, (1 : Int32) + Int32.ofNat v = Int32.ofNat (1 + v) := fun v => n_add 1 v
    cases mx with
    | false =>
      rw [if_pos (show (if (false : Bool) = true then (1 : Int32) else 0) = 0 by decide)]
      by_cases z : wl false (fun g e => A 16 (2 * g + e)) (A 8 0) c (A 16 (2 * g + 1)) < wl false (fun g e => A 16 (2 * g + e)) (A 8 0) c (A 16 (2 * g + 0))
      · rw [if_pos (ilt (by omega) (by omega) z), one]
        exact goon _ (by rw [if_neg (by decide)]; omega)
      · rw [if_neg (nlt (by omega) (by omega) (by omega)), one]
        exact goon _ (by rw [if_neg (by decide)]; omega)
    | true =>
      rw [if_neg (show ¬ (if (true : Bool) = true then (1 : Int32) else 0) = 0 by decide)]
      by_cases z : wl true (fun g e => A 16 (2 * g + e)) (A 8 0) c (A 16 (2 * g + 0)) < wl true (fun g e => A 16 (2 * g + e)) (A 8 0) c (A 16 (2 * g + 1))
      · rw [if_pos (ilt (by omega) (by omega) z), one]
        exact goon _ (by rw [if_pos rfl]; omega)
      · rw [if_neg (nlt (by omega) (by omega) (by omega)), one]
        exact goon _ (by rw [if_pos rfl]; omega)
/-- the length of the way: mx the longest, else the shortest -/
def wy (mx : Bool) (A : nD) : Nat := wl mx (fun g e => A 16 (2 * g + e)) (A 8 0) (A 8 0) 0
theorem w_of {A : nD} {D : am_DD} (mx : Bool) (h : rel A D) (hg : ig A) : ∃ D', fn_47 (if mx = true then 1 else 0) D = some (Int32.ofNat (wy mx A), D') ∧ rel A D' := by
  have wA : ∀ a, a ≠ 39 → rw_wipe D 39 25 a = D a := fun a ha => by
    funext j
    unfold rw_wipe
    rw [if_neg (fun q => ha q.1)]
  have h2 : rel A (rw_wipe D 39 25) := h.row fun a ha => wA a (by omega)
  obtain ⟨D', d1, d2⟩ := q_way (mx := mx) hg (A 8 0) 0 100000 (rw_wipe D 39 25) h2 (by omega) (by have := hg.1; omega) (fun j hj => if_pos ⟨rfl, hj⟩)
  refine ⟨D', ?_, d2⟩
  unfold fn_47 fn_46 am_F
  rw [h2.a8, d1]
  rfl
theorem w_0 {A : nD} {D : am_DD} (h : rel A D) (hg : ig A) : ∃ D', fn_47 0 D = some (Int32.ofNat (wy false A), D') ∧ rel A D' := w_of false h hg
theorem w_1 {A : nD} {D : am_DD} (h : rel A D) (hg : ig A) : ∃ D', fn_47 1 D = some (Int32.ofNat (wy true A), D') ∧ rel A D' := w_of true h hg
theorem wy_le {A : nD} : wy false A ≤ wy true A := wl_mono _ _
theorem wy_b {A : nD} {mx : Bool} (hg : ig A) : wy mx A ≤ 12 := Nat.le_trans (wl_le _ _) hg.1
theorem wy_pos {A : nD} {mx : Bool} : 0 < wy mx A ↔ 0 < A 8 0 := by
  constructor
  · intro h
    have := wl_le (mx := mx) (T := fun g e => A 16 (2 * g + e)) (m := A 8 0) (A 8 0) 0
    unfold wy at h
    omega
  · intro h
    exact wl_pos h
