/-! the class's rows of numbers: what each call answers and writes -/
section AYP
variable {i pc len a b : Nat} {L : am_LL} {S : List Value} {D D2 : am_DD} {o : Option Value ⊕ Nat}
theorem ay_t_ialoadk {q n k : Nat} {x : Int32} {z : List (Option Nat)} (hf : am_fetch i pc = some (.iaload, len, 3, a, b)) (hat : am_at ay_SK q = some (.inr (0, n, z))) (hq : ¬ q = am_scr) (hb : ¬ (x < 0 ∨ n ≤ x.toNatClampNeg)) (hk : x.toNatClampNeg = k) (kk : ay_to i (pc + len) L (.int (D q k) :: S) D o D2) : ay_to i pc L (.int x :: .ref q :: S) D o D2 := by
  subst hk
  exact ay_t_iaload hf hat hq hb kk
theorem ay_t_iastorek {q n k : Nat} {x y : Int32} {z : List (Option Nat)} (hf : am_fetch i pc = some (.iastore, len, 4, a, b)) (hat : am_at ay_SK q = some (.inr (0, n, z))) (hb : ¬ (x < 0 ∨ n ≤ x.toNatClampNeg)) (hk : x.toNatClampNeg = k) (kk : ay_to i (pc + len) L S (am_upd D q k y) o D2) : ay_to i pc L (.int y :: .int x :: .ref q :: S) D o D2 := by
  subst hk
  exact ay_t_iastore hf hat hb kk
end AYP
theorem rw_in {n : Nat} {i : Int32} (hn : n < 2 ^ 31) (h1 : ¬ i < 0) (h2 : ¬ Int32.ofNat n ≤ i) : ¬ (i < 0 ∨ n ≤ i.toNatClampNeg) := by
  intro h
  rcases h with h | h
  · exact h1 h
  · apply h2
    have e1 : (Int32.ofNat n).toInt = (n : Int) := nI_toInt hn
    have e2 : (0 : Int) ≤ i.toInt := by
      have := Int32.not_lt.mp h1
      simpa using Int32.le_iff_toInt_le.mp this
    have e3 : n ≤ i.toInt.toNat := h
    rw [Int32.le_iff_toInt_le, e1]
    omega
def rw_at (d : Nat → Int32) (n : Nat) (i : Int32) : Int32 := if i < 0 then 0 else if Int32.ofNat n ≤ i then 0 else d i.toNatClampNeg
def rw_put (D : am_DD) (q n : Nat) (i v : Int32) : am_DD := if i < 0 then D else if Int32.ofNat n ≤ i then D else am_upd D q i.toNatClampNeg v
def rw_raise (D : am_DD) (q n : Nat) (i v : Int32) : am_DD := if i < 0 then D else if Int32.ofNat n ≤ i then D else am_upd D q i.toNatClampNeg (D q i.toNatClampNeg + v)
def rw_wipe (D : am_DD) (q n : Nat) : am_DD := fun a k => if a = q ∧ k < n then 0 else D a k
def rw_same (d e : Nat → Int32) (n : Nat) : Int32 := if (List.range n).all (fun k => decide (d k = e k)) = true then 1 else 0
def rw_copy (D : am_DD) (s q n : Nat) : am_DD := fun a k => if a = q ∧ k < n then D s k else D a k
section RWM
variable {r q n : Nat} {z : List (Option Nat)} {D : am_DD} {i v : Int32}
set_option maxHeartbeats 2000000 in
theorem mt_at (hr : am_at ay_SK r = some (.inl (6, [some (.ref q)]))) (hq : am_at ay_SK q = some (.inr (0, n, z))) (hn : n < 2 ^ 31) : ay_mo 12 [.ref r, .int i] D (.inl (some (.int (rw_at (D q) n i)))) D := by
  refine ay_m_of (L := [some (.ref r), some (.int i)]) rfl ?_
  refine ay_t_loc (pc := 0) fe_12_0 rfl ?_
  unfold rw_at
  by_cases hc1 : i < 0
  · rw [if_pos hc1]
    refine ay_t_pos (pc := 1) hc1 fe_12_1 rfl ?_
    refine ay_t_stk (pc := 22) (S' := [.int 0]) fe_12_22 rfl ?_
    exact ay_t_iret fe_12_23 rfl rfl
  · rw [if_neg hc1]
    refine ay_t_neg (pc := 1) hc1 fe_12_1 rfl ?_
    refine ay_t_loc (pc := 4) fe_12_4 rfl ?_
    refine ay_t_loc (pc := 5) fe_12_5 rfl ?_
    refine ay_t_getR (pc := 6) (w := .ref q) fe_12_6 hr (by decide +kernel) rfl ?_
    refine ay_t_alen (pc := 9) fe_12_9 hq ?_
    by_cases hc2 : Int32.ofNat n ≤ i
    · rw [if_pos hc2]
      refine ay_t_pos (pc := 10) hc2 fe_12_10 rfl ?_
      refine ay_t_stk (pc := 22) (S' := [.int 0]) fe_12_22 rfl ?_
      exact ay_t_iret fe_12_23 rfl rfl
    · rw [if_neg hc2]
      refine ay_t_neg (pc := 10) hc2 fe_12_10 rfl ?_
      refine ay_t_loc (pc := 13) fe_12_13 rfl ?_
      refine ay_t_getR (pc := 14) (w := .ref q) fe_12_14 hr (by decide +kernel) rfl ?_
      refine ay_t_loc (pc := 17) fe_12_17 rfl ?_
      refine ay_t_iaload (pc := 18) fe_12_18 hq (am_at_spec hq).2 (rw_in hn hc1 hc2) ?_
      refine ay_t_br (pc := 19) (pc' := 23) fe_12_19 rfl ?_
      exact ay_t_iret fe_12_23 rfl rfl
set_option maxHeartbeats 2000000 in
theorem mt_put (hr : am_at ay_SK r = some (.inl (6, [some (.ref q)]))) (hq : am_at ay_SK q = some (.inr (0, n, z))) (hn : n < 2 ^ 31) : ay_mo 4 [.ref r, .int i, .int v] D (.inl none) (rw_put D q n i v) := by
  refine ay_m_of (L := [some (.ref r), some (.int i), some (.int v)]) rfl ?_
  refine ay_t_loc (pc := 0) fe_4_0 rfl ?_
  unfold rw_put
  by_cases hc1 : i < 0
  · rw [if_pos hc1]
    refine ay_t_pos (pc := 1) hc1 fe_4_1 rfl ?_
    exact ay_t_vret fe_4_20 rfl
  · rw [if_neg hc1]
    refine ay_t_neg (pc := 1) hc1 fe_4_1 rfl ?_
    refine ay_t_loc (pc := 4) fe_4_4 rfl ?_
    refine ay_t_loc (pc := 5) fe_4_5 rfl ?_
    refine ay_t_getR (pc := 6) (w := .ref q) fe_4_6 hr (by decide +kernel) rfl ?_
    refine ay_t_alen (pc := 9) fe_4_9 hq ?_
    by_cases hc2 : Int32.ofNat n ≤ i
    · rw [if_pos hc2]
      refine ay_t_pos (pc := 10) hc2 fe_4_10 rfl ?_
      exact ay_t_vret fe_4_20 rfl
    · rw [if_neg hc2]
      refine ay_t_neg (pc := 10) hc2 fe_4_10 rfl ?_
      refine ay_t_loc (pc := 13) fe_4_13 rfl ?_
      refine ay_t_getR (pc := 14) (w := .ref q) fe_4_14 hr (by decide +kernel) rfl ?_
      refine ay_t_loc (pc := 17) fe_4_17 rfl ?_
      refine ay_t_loc (pc := 18) fe_4_18 rfl ?_
      refine ay_t_iastore (pc := 19) fe_4_19 hq (rw_in hn hc1 hc2) ?_
      exact ay_t_vret fe_4_20 rfl
set_option maxHeartbeats 2000000 in
theorem mt_raise (hr : am_at ay_SK r = some (.inl (6, [some (.ref q)]))) (hq : am_at ay_SK q = some (.inr (0, n, z))) (hn : n < 2 ^ 31) : ay_mo 18 [.ref r, .int i, .int v] D (.inl none) (rw_raise D q n i v) := by
  refine ay_m_of (L := [some (.ref r), some (.int i), some (.int v)]) rfl ?_
  refine ay_t_loc (pc := 0) fe_18_0 rfl ?_
  unfold rw_raise
  by_cases hc1 : i < 0
  · rw [if_pos hc1]
    refine ay_t_pos (pc := 1) hc1 fe_18_1 rfl ?_
    exact ay_t_vret fe_18_23 rfl
  · rw [if_neg hc1]
    refine ay_t_neg (pc := 1) hc1 fe_18_1 rfl ?_
    refine ay_t_loc (pc := 4) fe_18_4 rfl ?_
    refine ay_t_loc (pc := 5) fe_18_5 rfl ?_
    refine ay_t_getR (pc := 6) (w := .ref q) fe_18_6 hr (by decide +kernel) rfl ?_
    refine ay_t_alen (pc := 9) fe_18_9 hq ?_
    by_cases hc2 : Int32.ofNat n ≤ i
    · rw [if_pos hc2]
      refine ay_t_pos (pc := 10) hc2 fe_18_10 rfl ?_
      exact ay_t_vret fe_18_23 rfl
    · rw [if_neg hc2]
      refine ay_t_neg (pc := 10) hc2 fe_18_10 rfl ?_
      refine ay_t_loc (pc := 13) fe_18_13 rfl ?_
      refine ay_t_getR (pc := 14) (w := .ref q) fe_18_14 hr (by decide +kernel) rfl ?_
      refine ay_t_loc (pc := 17) fe_18_17 rfl ?_
      refine ay_t_stk (pc := 18) (S' := [.int i, .ref q, .int i, .ref q]) fe_18_18 rfl ?_
      refine ay_t_iaload (pc := 19) fe_18_19 hq (am_at_spec hq).2 (rw_in hn hc1 hc2) ?_
      refine ay_t_loc (pc := 20) fe_18_20 rfl ?_
      refine ay_t_stk (pc := 21) (S' := [.int ((D q i.toNatClampNeg) + v), .int i, .ref q]) fe_18_21 rfl ?_
      refine ay_t_iastore (pc := 22) fe_18_22 hq (rw_in hn hc1 hc2) ?_
      exact ay_t_vret fe_18_23 rfl
set_option maxHeartbeats 2000000 in
theorem mt_exch (hr : am_at ay_SK r = some (.inl (6, [some (.ref q)]))) (hq : am_at ay_SK q = some (.inr (0, n, z))) (hn : n < 2 ^ 31) : ay_mo 83 [.ref r, .int i, .int v] D (.inl (some (.int (rw_at (D q) n i)))) (rw_put D q n i v) := by
  refine ay_m_of (L := [some (.ref r), some (.int i), some (.int v), none]) rfl ?_
  refine ay_t_loc (pc := 0) fe_83_0 rfl ?_
  refine ay_t_loc (pc := 1) fe_83_1 rfl ?_
  refine ay_t_call (pc := 2) (w := some (.int (rw_at (D q) n i))) fe_83_2 (ay_args [.ref r, .int i] [] rfl rfl (Nat.le_of_ble_eq_true rfl) (Nat.le_of_ble_eq_true rfl)) (ay_rcvV hr rfl) (mt_at hr hq hn) ?_
  refine ay_t_loc (pc := 5) (L' := [some (.ref r), some (.int i), some (.int v), some (.int (rw_at (D q) n i))]) fe_83_5 rfl ?_
  refine ay_t_loc (pc := 6) fe_83_6 rfl ?_
  refine ay_t_loc (pc := 7) fe_83_7 rfl ?_
  refine ay_t_loc (pc := 8) fe_83_8 rfl ?_
  refine ay_t_call (pc := 9) (w := none) fe_83_9 (ay_args [.ref r, .int i, .int v] [] rfl rfl (Nat.le_of_ble_eq_true rfl) (Nat.le_of_ble_eq_true rfl)) (ay_rcvV hr rfl) (mt_put hr hq hn) ?_
  refine ay_t_loc (pc := 12) fe_83_12 rfl ?_
  exact ay_t_iret fe_83_13 rfl rfl
theorem nI_not_le {k n : Nat} (h : k < n) (hn : n < 2 ^ 31) : ¬ Int32.ofNat n ≤ Int32.ofNat k := nI_ge h hn
theorem nI_up (k : Nat) : Int32.ofNat k + 1 = Int32.ofNat (k + 1) := (nI_succ k).symm
set_option maxHeartbeats 2000000 in
theorem mt_wipe_l (hr : am_at ay_SK r = some (.inl (6, [some (.ref q)]))) (hq : am_at ay_SK q = some (.inr (0, n, z))) (hn : n < 2 ^ 31) : ∀ (m k : Nat) (D : am_DD), k + m = n → ay_to 15 2 [some (.ref r), some (.int (Int32.ofNat k))] [] D (.inl none) (fun a j => if a = q ∧ k ≤ j ∧ j < n then 0 else D a j) := by
  intro m
  induction m with
  | zero =>
    intro k D hk
    have e : (fun a j => if a = q ∧ k ≤ j ∧ j < n then 0 else D a j) = D := by
      funext a j
      rw [if_neg (fun h => by omega)]
    rw [e]
    refine ay_t_loc (pc := 2) fe_15_2 rfl ?_
    refine ay_t_loc (pc := 3) fe_15_3 rfl ?_
    refine ay_t_getR (pc := 4) (w := .ref q) fe_15_4 hr (by decide +kernel) rfl ?_
    refine ay_t_alen (pc := 7) fe_15_7 hq ?_
    refine ay_t_pos (pc := 8) (P := Int32.ofNat n ≤ Int32.ofNat k) (nI_le (by omega) (by omega)) fe_15_8 rfl ?_
    exact ay_t_vret fe_15_24 rfl
  | succ m ih =>
    intro k D hk
    have hlt : ¬ Int32.ofNat n ≤ Int32.ofNat k := nI_not_le (by omega) hn
    have hc : (Int32.ofNat k).toNatClampNeg = k := nI_clamp (by omega)
    refine ay_t_loc (pc := 2) fe_15_2 rfl ?_
    refine ay_t_loc (pc := 3) fe_15_3 rfl ?_
    refine ay_t_getR (pc := 4) (w := .ref q) fe_15_4 hr (by decide +kernel) rfl ?_
    refine ay_t_alen (pc := 7) fe_15_7 hq ?_
    refine ay_t_neg (pc := 8) hlt fe_15_8 rfl ?_
    refine ay_t_loc (pc := 11) fe_15_11 rfl ?_
    refine ay_t_getR (pc := 12) (w := .ref q) fe_15_12 hr (by decide +kernel) rfl ?_
    refine ay_t_loc (pc := 15) fe_15_15 rfl ?_
    refine ay_t_stk (pc := 16) (S' := [.int 0, .int (Int32.ofNat k), .ref q]) fe_15_16 rfl ?_
    refine ay_t_iastorek (pc := 17) (k := k) fe_15_17 hq (rw_in hn (nI_pos (by omega)) hlt) hc ?_
    refine ay_t_loc (pc := 18) (L' := [some (.ref r), some (.int (Int32.ofNat k + 1))]) fe_15_18 rfl ?_
    refine ay_t_br (pc := 21) (pc' := 2) fe_15_21 rfl ?_
    rw [nI_up]
    have h := ih (k + 1) (am_upd D q k 0) (by omega)
    have e : (fun a j => if a = q ∧ k + 1 ≤ j ∧ j < n then 0 else am_upd D q k 0 a j) = (fun a j => if a = q ∧ k ≤ j ∧ j < n then 0 else D a j) := by
      funext a j
      unfold am_upd
      by_cases ha : a = q
      · by_cases hj : j = k
        · rw [if_neg (by omega), if_pos ha, if_pos hj, if_pos ⟨ha, by omega, by omega⟩]
        · by_cases hj2 : k + 1 ≤ j ∧ j < n
          · rw [if_pos ⟨ha, hj2⟩, if_pos ⟨ha, by omega, by omega⟩]
          · rw [if_neg (fun h => hj2 h.2), if_pos ha, if_neg hj, if_neg (fun h => hj2 ⟨by omega, h.2.2⟩)]
      · rw [if_neg (fun h => ha h.1), if_neg ha, if_neg (fun h => ha h.1)]
    rw [e] at h
    exact h
theorem mt_wipe (hr : am_at ay_SK r = some (.inl (6, [some (.ref q)]))) (hq : am_at ay_SK q = some (.inr (0, n, z))) (hn : n < 2 ^ 31) : ay_mo 15 [.ref r] D (.inl none) (rw_wipe D q n) := by
  refine ay_m_of (L := [some (.ref r), none]) rfl ?_
  refine ay_t_stk (pc := 0) (S' := [.int 0]) fe_15_0 rfl ?_
  refine ay_t_loc (pc := 1) (L' := [some (.ref r), some (.int 0)]) fe_15_1 rfl ?_
  have h := mt_wipe_l hr hq hn n 0 D (by omega)
  have e : (fun a j => if a = q ∧ 0 ≤ j ∧ j < n then 0 else D a j) = rw_wipe D q n := by
    funext a j
    unfold rw_wipe
    simp
  rw [e] at h
  exact h
theorem rw_at_nI {d : Nat → Int32} {n k : Nat} (hk : k < n) (hn : n < 2 ^ 31) : rw_at d n (Int32.ofNat k) = d k := by
  unfold rw_at
  have hc : (Int32.ofNat k).toNatClampNeg = k := nI_clamp (by omega)
  have h0 : ¬ Int32.ofNat k < 0 := nI_pos (n := k) (by omega)
  rw [if_neg h0, if_neg (nI_not_le hk hn), hc]
set_option maxHeartbeats 2000000 in
theorem mt_same_l {r2 q2 : Nat} {z2 : List (Option Nat)} (hr : am_at ay_SK r = some (.inl (6, [some (.ref q)]))) (hq : am_at ay_SK q = some (.inr (0, n, z))) (hr2 : am_at ay_SK r2 = some (.inl (6, [some (.ref q2)]))) (hq2 : am_at ay_SK q2 = some (.inr (0, n, z2))) (hn : n < 2 ^ 31) :
    ∀ (m k : Nat), k + m = n → ay_to 52 2 [some (.ref r), some (.ref r2), some (.int (Int32.ofNat k))] [] D (.inl (some (.int (if (List.range' k m).all (fun k => decide (D q k = D q2 k)) = true then 1 else 0)))) D := by
  intro m
  induction m with
  | zero =>
    intro k hk
    refine ay_t_loc (pc := 2) fe_52_2 rfl ?_
    refine ay_t_loc (pc := 3) fe_52_3 rfl ?_
    refine ay_t_getR (pc := 4) (w := .ref q) fe_52_4 hr (by decide +kernel) rfl ?_
    refine ay_t_alen (pc := 7) fe_52_7 hq ?_
    refine ay_t_pos (pc := 8) (P := Int32.ofNat n ≤ Int32.ofNat k) (nI_le (by omega) (by omega)) fe_52_8 rfl ?_
    refine ay_t_stk (pc := 33) (S' := [.int 1]) fe_52_33 rfl ?_
    exact ay_t_iret fe_52_34 rfl rfl
  | succ m ih =>
    intro k hk
    have hlt : ¬ Int32.ofNat n ≤ Int32.ofNat k := nI_not_le (by omega) hn
    have hc : (Int32.ofNat k).toNatClampNeg = k := nI_clamp (by omega)
    refine ay_t_loc (pc := 2) fe_52_2 rfl ?_
    refine ay_t_loc (pc := 3) fe_52_3 rfl ?_
    refine ay_t_getR (pc := 4) (w := .ref q) fe_52_4 hr (by decide +kernel) rfl ?_
    refine ay_t_alen (pc := 7) fe_52_7 hq ?_
    refine ay_t_neg (pc := 8) hlt fe_52_8 rfl ?_
    refine ay_t_loc (pc := 11) fe_52_11 rfl ?_
    refine ay_t_getR (pc := 12) (w := .ref q) fe_52_12 hr (by decide +kernel) rfl ?_
    refine ay_t_loc (pc := 15) fe_52_15 rfl ?_
    refine ay_t_ialoadk (pc := 16) (k := k) fe_52_16 hq (am_at_spec hq).2 (rw_in hn (nI_pos (by omega)) hlt) hc ?_
    refine ay_t_loc (pc := 17) fe_52_17 rfl ?_
    refine ay_t_loc (pc := 18) fe_52_18 rfl ?_
    have hm := mt_at (D := D) (i := Int32.ofNat k) hr2 hq2 hn
    rw [rw_at_nI (by omega) hn] at hm
    refine ay_t_call (pc := 19) (w := some (.int (D q2 k))) fe_52_19 (ay_args [.ref r2, .int (Int32.ofNat k)] [.int (D q k)] rfl rfl (Nat.le_of_ble_eq_true rfl) (Nat.le_of_ble_eq_true rfl)) (ay_rcvV hr2 rfl) hm ?_
    rw [List.range'_succ, List.all_cons]
    by_cases hc6 : D q k = D q2 k
    · refine ay_t_pos (pc := 22) hc6 fe_52_22 rfl ?_
      refine ay_t_loc (pc := 27) (L' := [some (.ref r), some (.ref r2), some (.int (Int32.ofNat k + 1))]) fe_52_27 rfl ?_
      refine ay_t_br (pc := 30) (pc' := 2) fe_52_30 rfl ?_
      rw [nI_up, decide_eq_true hc6, Bool.true_and]
      exact ih (k + 1) (by omega)
    · refine ay_t_neg (pc := 22) hc6 fe_52_22 rfl ?_
      refine ay_t_stk (pc := 25) (S' := [.int 0]) fe_52_25 rfl ?_
      rw [decide_eq_false hc6, Bool.false_and]
      exact ay_t_iret fe_52_26 rfl rfl
theorem mt_same {r2 q2 : Nat} {z2 : List (Option Nat)} (hr : am_at ay_SK r = some (.inl (6, [some (.ref q)]))) (hq : am_at ay_SK q = some (.inr (0, n, z))) (hr2 : am_at ay_SK r2 = some (.inl (6, [some (.ref q2)]))) (hq2 : am_at ay_SK q2 = some (.inr (0, n, z2))) (hn : n < 2 ^ 31) : ay_mo 52 [.ref r, .ref r2] D (.inl (some (.int (rw_same (D q) (D q2) n)))) D := by
  refine ay_m_of (L := [some (.ref r), some (.ref r2), none]) rfl ?_
  refine ay_t_stk (pc := 0) (S' := [.int 0]) fe_52_0 rfl ?_
  refine ay_t_loc (pc := 1) (L' := [some (.ref r), some (.ref r2), some (.int 0)]) fe_52_1 rfl ?_
  have h := mt_same_l (D := D) hr hq hr2 hq2 hn n 0 (by omega)
  unfold rw_same
  rw [List.range_eq_range']
  exact h
set_option maxHeartbeats 2000000 in
theorem mt_copy {r2 q2 : Nat} {z2 : List (Option Nat)} (hr : am_at ay_SK r = some (.inl (6, [some (.ref q)]))) (hq : am_at ay_SK q = some (.inr (0, n, z))) (hr2 : am_at ay_SK r2 = some (.inl (6, [some (.ref q2)]))) (hq2 : am_at ay_SK q2 = some (.inr (0, n, z2))) (hn : n < 2 ^ 31) : ay_mo 49 [.ref r, .ref r2] D (.inl none) (rw_copy D q2 q n) := by
  refine ay_m_of (L := [some (.ref r), some (.ref r2)]) rfl ?_
  refine ay_t_loc (pc := 0) fe_49_0 rfl ?_
  refine ay_t_getR (pc := 1) (w := .ref q2) fe_49_1 hr2 (by decide +kernel) rfl ?_
  refine ay_t_stk (pc := 4) (S' := [.int 0, .ref q2]) fe_49_4 rfl ?_
  refine ay_t_loc (pc := 5) fe_49_5 rfl ?_
  refine ay_t_getR (pc := 6) (w := .ref q) fe_49_6 hr (by decide +kernel) rfl ?_
  refine ay_t_stk (pc := 9) (S' := [.int 0, .ref q, .int 0, .ref q2]) fe_49_9 rfl ?_
  refine ay_t_loc (pc := 10) fe_49_10 rfl ?_
  refine ay_t_getR (pc := 11) (w := .ref q2) fe_49_11 hr2 (by decide +kernel) rfl ?_
  refine ay_t_alen (pc := 14) fe_49_14 hq2 ?_
  refine ay_t_loc (pc := 15) fe_49_15 rfl ?_
  refine ay_t_getR (pc := 16) (w := .ref q) fe_49_16 hr (by decide +kernel) rfl ?_
  refine ay_t_alen (pc := 19) fe_49_19 hq ?_
  have hl : ¬ Int32.ofNat n < Int32.ofNat n := Int32.lt_irrefl
  refine ay_t_lib (pc := 20) (D' := D) (S' := [.int (Int32.ofNat n), .int 0, .ref q, .int 0, .ref q2]) fe_49_20 (by simp [am_lib, am_words, Value.category, hl]) ?_
  have hc : (Int32.ofNat n).toNatClampNeg = n := nI_clamp hn
  refine ay_t_lib (pc := 23) (S' := []) (D' := rw_copy D q2 q n) fe_49_23 ?_ ?_
  · have hp : ¬ Int32.ofNat n < 0 := nI_pos hn
    simp only [am_lib, hq2, hq, hc]
    rw [if_pos ⟨by decide, by decide, by decide, hp, by simp, by simp⟩]
    congr 2
    funext a k
    unfold am_cpy rw_copy va_cpy
    by_cases ha : a = q
    · subst ha
      simp
    · simp [ha]
  · exact ay_t_vret fe_49_26 rfl
end RWM
