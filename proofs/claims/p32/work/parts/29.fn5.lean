/-! methods as functions, with what am_run does (written by wip/p32/gen6.py) -/
def fn_67_4 : Nat → Int32 → Int32 → am_DD → Option (Int32 × am_DD)
  | 0, _, _, _ => none
  | n + 1, x1, x2, D => (if (D 26 1) ≤ x2 then some (x1, D) else (match fn_17 x2 D with | none => none | some (y2, D3) => fn_67_4 n (x1 + y2) (x2 + 1) D3))
set_option maxHeartbeats 2000000 in
theorem ev_67_4 : ∀ (n : Nat) (x1 x2 : Int32) (D : am_DD) (y : Int32) (Z : am_DD), fn_67_4 n x1 x2 D = some (y, Z) → ay_to 67 4 [some (.ref 40), some (.int x1), some (.int x2)] [] D (.inl (some (.int y))) Z := by
  intro n
  induction n with
  | zero => intro x1 x2 D y Z h; cases h
  | succ n ih =>
    intro x1 x2 D y Z h
    rw [fn_67_4] at h
    refine ay_t_loc (pc := 4) fe_67_4 rfl ?_
    refine ay_t_loc (pc := 5) fe_67_5 rfl ?_
    refine ay_t_getR (pc := 6) (w := .ref 26) fe_67_6 at_40 (by decide +kernel) rfl ?_
    refine ay_t_getI (pc := 9) fe_67_9 at_26 (by decide +kernel) rfl ?_
    by_cases hc1 : (D 26 1) ≤ x2
    · rw [if_pos hc1] at h
      refine ay_t_pos (pc := 12) hc1 fe_67_12 rfl ?_
      refine ay_t_loc (pc := 32) fe_67_32 rfl ?_
      cases h
      exact ay_t_iret fe_67_33 rfl rfl
    · rw [if_neg hc1] at h
      refine ay_t_neg (pc := 12) hc1 fe_67_12 rfl ?_
      refine ay_t_loc (pc := 15) fe_67_15 rfl ?_
      refine ay_t_loc (pc := 16) fe_67_16 rfl ?_
      refine ay_t_getR (pc := 17) (w := .ref 26) fe_67_17 at_40 (by decide +kernel) rfl ?_
      refine ay_t_loc (pc := 20) fe_67_20 rfl ?_
      cases hk4 : fn_17 x2 D with
      | none => rw [hk4] at h; cases h
      | some z =>
        obtain ⟨y2, D3⟩ := z
        rw [hk4] at h
        dsimp only at h
        refine ay_t_call (pc := 21) (w := some (.int y2)) fe_67_21 (ay_args [.ref 26, .int x2] [.int x1] rfl rfl (Nat.le_of_ble_eq_true rfl) (Nat.le_of_ble_eq_true rfl)) (ay_rcvV at_26 rfl) (ev_17 hk4) ?_
        refine ay_t_stk (pc := 24) (S' := [.int (x1 + y2)]) fe_67_24 rfl ?_
        refine ay_t_loc (pc := 25) (L' := [some (.ref 40), some (.int (x1 + y2)), some (.int x2)]) fe_67_25 rfl ?_
        refine ay_t_loc (pc := 26) (L' := [some (.ref 40), some (.int (x1 + y2)), some (.int (x2 + 1))]) fe_67_26 rfl ?_
        refine ay_t_br (pc := 29) (pc' := 4) fe_67_29 rfl ?_
        exact ay_t_less (ay_ls (ay_ls (ay_ls ay_l0))) (ih _ _ _ _ _ h)
def fn_67 (D : am_DD) : Option (Int32 × am_DD) := fn_67_4 am_F 0 0 D
set_option maxHeartbeats 2000000 in
theorem ev_67 {D : am_DD} {y : Int32} {Z : am_DD} (h : fn_67  D = some (y, Z)) : ay_mo 67 [.ref 40] D (.inl (some (.int y))) Z := by
  unfold fn_67 at h
  refine ay_m_of (L := [some (.ref 40), none, none]) rfl ?_
  refine ay_t_stk (pc := 0) (S' := [.int 0]) fe_67_0 rfl ?_
  refine ay_t_loc (pc := 1) (L' := [some (.ref 40), some (.int 0), none]) fe_67_1 rfl ?_
  refine ay_t_stk (pc := 2) (S' := [.int 0]) fe_67_2 rfl ?_
  refine ay_t_loc (pc := 3) (L' := [some (.ref 40), some (.int 0), some (.int 0)]) fe_67_3 rfl ?_
  exact ay_t_less (ay_ls (ay_ls (ay_ls ay_l0))) (ev_67_4 _ _ _ _ _ _ h)
def fn_68 (D : am_DD) : Option (UInt32 × am_DD) := (if (D 26 1) ≤ 0 then some (FP.fconst0, D) else (match fn_67 D with | none => none | some (y2, D3) => (if (FP.fdiv (FP.i2f y2) (FP.i2f (D 26 1))) &&& 0x7fffffff ≤ 0x7f800000 then some ((FP.fdiv (FP.i2f y2) (FP.i2f (D 26 1))), D3) else none)))
set_option maxHeartbeats 2000000 in
theorem ev_68 {D : am_DD} {y : UInt32} {Z : am_DD} (h : fn_68  D = some (y, Z)) : ay_mo 68 [.ref 0] D (.inl (some (.float y))) Z := by
  unfold fn_68 at h
  refine ay_m_of (L := [some (.ref 0), none]) rfl ?_
  refine ay_t_loc (pc := 0) fe_68_0 rfl ?_
  refine ay_t_getR (pc := 1) (w := .ref 1) fe_68_1 at_0 (by decide +kernel) rfl ?_
  refine ay_t_getR (pc := 4) (w := .ref 26) fe_68_4 at_1 (by decide +kernel) rfl ?_
  refine ay_t_getI (pc := 7) fe_68_7 at_26 (by decide +kernel) rfl ?_
  refine ay_t_loc (pc := 10) (L' := [some (.ref 0), some (.int (D 26 1))]) fe_68_10 rfl ?_
  refine ay_t_loc (pc := 11) fe_68_11 rfl ?_
  by_cases hc1 : (D 26 1) ≤ 0
  · rw [if_pos hc1] at h
    refine ay_t_pos (pc := 12) hc1 fe_68_12 rfl ?_
    refine ay_t_stk (pc := 29) (S' := [.float FP.fconst0]) fe_68_29 rfl ?_
    cases h
    exact ay_t_fret fe_68_30 rfl
  · rw [if_neg hc1] at h
    refine ay_t_neg (pc := 12) hc1 fe_68_12 rfl ?_
    refine ay_t_loc (pc := 15) fe_68_15 rfl ?_
    refine ay_t_getR (pc := 16) (w := .ref 40) fe_68_16 at_0 (by decide +kernel) rfl ?_
    cases hk4 : fn_67 D with
    | none => rw [hk4] at h; cases h
    | some z =>
      obtain ⟨y2, D3⟩ := z
      rw [hk4] at h
      dsimp only at h
      refine ay_t_call (pc := 19) (w := some (.int y2)) fe_68_19 (ay_args [.ref 40] [] rfl rfl (Nat.le_of_ble_eq_true rfl) (Nat.le_of_ble_eq_true rfl)) (ay_rcvV at_40 rfl) (ev_67 hk4) ?_
      refine ay_t_stk (pc := 22) (S' := [.float (FP.i2f y2)]) fe_68_22 rfl ?_
      refine ay_t_loc (pc := 23) fe_68_23 rfl ?_
      refine ay_t_stk (pc := 24) (S' := [.float (FP.i2f (D 26 1)), .float (FP.i2f y2)]) fe_68_24 rfl ?_
      by_cases hf5 : (FP.fdiv (FP.i2f y2) (FP.i2f (D 26 1))) &&& 0x7fffffff ≤ 0x7f800000
      · rw [if_pos hf5] at h
        refine ay_t_stk (pc := 25) (S' := [.float (FP.fdiv (FP.i2f y2) (FP.i2f (D 26 1)))]) fe_68_25 (if_pos hf5) ?_
        refine ay_t_br (pc := 26) (pc' := 30) fe_68_26 rfl ?_
        cases h
        exact ay_t_fret fe_68_30 rfl
      · rw [if_neg hf5] at h; cases h
def fn_70 (a1 a2 : Int32) (D : am_DD) : Option (Int32 × am_DD) := (if a2 = 0 then none else some (((a1 &&& 2147483647) - (a1 &&& 2147483647) / a2 * a2), D))
set_option maxHeartbeats 2000000 in
theorem ev_70 {a1 a2 : Int32} {D : am_DD} {y : Int32} {Z : am_DD} (h : fn_70 a1 a2 D = some (y, Z)) : ay_mo 70 [.int a1, .int a2] D (.inl (some (.int y))) Z := by
  unfold fn_70 at h
  refine ay_m_of (L := [some (.int a1), some (.int a2)]) rfl ?_
  refine ay_t_loc (pc := 0) fe_70_0 rfl ?_
  refine ay_t_lib (pc := 1) (S' := [.int 2147483647, .int a1]) fe_70_1 rfl ?_
  refine ay_t_stk (pc := 3) (S' := [.int (a1 &&& 2147483647)]) fe_70_3 rfl ?_
  refine ay_t_loc (pc := 4) fe_70_4 rfl ?_
  by_cases hz1 : a2 = 0
  · rw [if_pos hz1] at h; cases h
  rw [if_neg hz1] at h
  refine ay_t_stk (pc := 5) (S' := [.int ((a1 &&& 2147483647) - (a1 &&& 2147483647) / a2 * a2)]) fe_70_5 (ay_irem hz1) ?_
  cases h
  exact ay_t_iret fe_70_6 rfl rfl
def fn_71 (a1 : Int32) (D : am_DD) : Option (Int32 × am_DD) := (if a1 < 0 then some (0, D) else (if 31 ≤ a1 then some (0, D) else some (1, D)))
set_option maxHeartbeats 2000000 in
theorem ev_71 {a1 : Int32} {D : am_DD} {y : Int32} {Z : am_DD} (h : fn_71 a1 D = some (y, Z)) : ay_mo 71 [.int a1] D (.inl (some (.int y))) Z := by
  unfold fn_71 at h
  refine ay_m_of (L := [some (.int a1)]) rfl ?_
  refine ay_t_loc (pc := 0) fe_71_0 rfl ?_
  by_cases hc1 : a1 < 0
  · rw [if_pos hc1] at h
    refine ay_t_pos (pc := 1) hc1 fe_71_1 rfl ?_
    refine ay_t_stk (pc := 14) (S' := [.int 0]) fe_71_14 rfl ?_
    cases h
    exact ay_t_iret fe_71_15 rfl rfl
  · rw [if_neg hc1] at h
    refine ay_t_neg (pc := 1) hc1 fe_71_1 rfl ?_
    refine ay_t_loc (pc := 4) fe_71_4 rfl ?_
    refine ay_t_stk (pc := 5) (S' := [.int 31, .int a1]) fe_71_5 rfl ?_
    by_cases hc2 : 31 ≤ a1
    · rw [if_pos hc2] at h
      refine ay_t_pos (pc := 7) hc2 fe_71_7 rfl ?_
      refine ay_t_stk (pc := 14) (S' := [.int 0]) fe_71_14 rfl ?_
      cases h
      exact ay_t_iret fe_71_15 rfl rfl
    · rw [if_neg hc2] at h
      refine ay_t_neg (pc := 7) hc2 fe_71_7 rfl ?_
      refine ay_t_stk (pc := 10) (S' := [.int 1]) fe_71_10 rfl ?_
      refine ay_t_br (pc := 11) (pc' := 15) fe_71_11 rfl ?_
      cases h
      exact ay_t_iret fe_71_15 rfl rfl
def fn_72 (D : am_DD) : Option (Int32 × am_DD) := (if 12 ≤ (D 8 0) then some (0, D) else some (1, D))
set_option maxHeartbeats 2000000 in
theorem ev_72 {D : am_DD} {y : Int32} {Z : am_DD} (h : fn_72  D = some (y, Z)) : ay_mo 72 [.ref 8] D (.inl (some (.int y))) Z := by
  unfold fn_72 at h
  refine ay_m_of (L := [some (.ref 8)]) rfl ?_
  refine ay_t_loc (pc := 0) fe_72_0 rfl ?_
  refine ay_t_getI (pc := 1) fe_72_1 at_8 (by decide +kernel) rfl ?_
  refine ay_t_stk (pc := 4) (S' := [.int 12, .int (D 8 0)]) fe_72_4 rfl ?_
  by_cases hc1 : 12 ≤ (D 8 0)
  · rw [if_pos hc1] at h
    refine ay_t_pos (pc := 6) hc1 fe_72_6 rfl ?_
    refine ay_t_stk (pc := 13) (S' := [.int 0]) fe_72_13 rfl ?_
    cases h
    exact ay_t_iret fe_72_14 rfl rfl
  · rw [if_neg hc1] at h
    refine ay_t_neg (pc := 6) hc1 fe_72_6 rfl ?_
    refine ay_t_stk (pc := 9) (S' := [.int 1]) fe_72_9 rfl ?_
    refine ay_t_br (pc := 10) (pc' := 14) fe_72_10 rfl ?_
    cases h
    exact ay_t_iret fe_72_14 rfl rfl
def fn_73 (a1 : Int32) (D : am_DD) : Option (Int32 × am_DD) := some ((((D 56 1) + a1) - ((D 56 1) + a1) / 6 * 6), D)
set_option maxHeartbeats 2000000 in
theorem ev_73 {a1 : Int32} {D : am_DD} {y : Int32} {Z : am_DD} (h : fn_73 a1 D = some (y, Z)) : ay_mo 73 [.ref 56, .int a1] D (.inl (some (.int y))) Z := by
  unfold fn_73 at h
  refine ay_m_of (L := [some (.ref 56), some (.int a1)]) rfl ?_
  refine ay_t_loc (pc := 0) fe_73_0 rfl ?_
  refine ay_t_getI (pc := 1) fe_73_1 at_56 (by decide +kernel) rfl ?_
  refine ay_t_loc (pc := 4) fe_73_4 rfl ?_
  refine ay_t_stk (pc := 5) (S' := [.int ((D 56 1) + a1)]) fe_73_5 rfl ?_
  refine ay_t_stk (pc := 6) (S' := [.int 6, .int ((D 56 1) + a1)]) fe_73_6 rfl ?_
  refine ay_t_stk (pc := 8) (S' := [.int (((D 56 1) + a1) - ((D 56 1) + a1) / 6 * 6)]) fe_73_8 (ay_irem (by decide)) ?_
  cases h
  exact ay_t_iret fe_73_9 rfl rfl
def fn_79 (D : am_DD) : Option (Int32 × am_DD) := (match fn_73 (D 56 2) D with | none => none | some (y1, D2) => (match sh_store_57 y1 D2 with | none => none | some D4 => (if 6 ≤ (D4 56 2) then (match fn_73 1 D4 with | none => none | some (y7, D8) => some (0, (am_upd D8 56 1 y7))) else some (0, (am_upd D4 56 2 ((D4 56 2) + 1))))))
set_option maxHeartbeats 2000000 in
theorem ev_79 {D : am_DD} {y : Int32} {Z : am_DD} (h : fn_79  D = some (y, Z)) : ay_mo 79 [.ref 56, .ref 1] D (.inl none) Z := by
  unfold fn_79 at h
  refine ay_m_of (L := [some (.ref 56), some (.ref 1)]) rfl ?_
  refine ay_t_loc (pc := 0) fe_79_0 rfl ?_
  refine ay_t_getR (pc := 1) (w := .ref 57) fe_79_1 at_56 (by decide +kernel) rfl ?_
  refine ay_t_loc (pc := 4) fe_79_4 rfl ?_
  refine ay_t_loc (pc := 5) fe_79_5 rfl ?_
  refine ay_t_getI (pc := 6) fe_79_6 at_56 (by decide +kernel) rfl ?_
  cases hk3 : fn_73 (D 56 2) D with
  | none => rw [hk3] at h; cases h
  | some z =>
    obtain ⟨y1, D2⟩ := z
    rw [hk3] at h
    dsimp only at h
    refine ay_t_call (pc := 9) (w := some (.int y1)) fe_79_9 (ay_args [.ref 56, .int (D 56 2)] [.ref 57] rfl rfl (Nat.le_of_ble_eq_true rfl) (Nat.le_of_ble_eq_true rfl)) (ay_rcvV at_56 rfl) (ev_73 hk3) ?_
    refine ay_t_loc (pc := 12) fe_79_12 rfl ?_
    cases hk5 : sh_store_57 y1 D2 with
    | none => rw [hk5] at h; cases h
    | some D4 =>
      rw [hk5] at h
      dsimp only at h
      refine ay_t_call (pc := 13) (w := none) fe_79_13 (ay_args [.ref 57, .int y1, .ref 1] [] rfl rfl (Nat.le_of_ble_eq_true rfl) (Nat.le_of_ble_eq_true rfl)) (ay_rcvV at_57 rfl) (mt_sh_store_57 hk5) ?_
      refine ay_t_loc (pc := 16) fe_79_16 rfl ?_
      refine ay_t_getI (pc := 17) fe_79_17 at_56 (by decide +kernel) rfl ?_
      refine ay_t_stk (pc := 20) (S' := [.int 6, .int (D4 56 2)]) fe_79_20 rfl ?_
      by_cases hc6 : 6 ≤ (D4 56 2)
      · rw [if_pos hc6] at h
        refine ay_t_pos (pc := 22) hc6 fe_79_22 rfl ?_
        refine ay_t_loc (pc := 38) fe_79_38 rfl ?_
        refine ay_t_loc (pc := 39) fe_79_39 rfl ?_
        refine ay_t_stk (pc := 40) (S' := [.int 1, .ref 56, .ref 56]) fe_79_40 rfl ?_
        cases hk9 : fn_73 1 D4 with
        | none => rw [hk9] at h; cases h
        | some z =>
          obtain ⟨y7, D8⟩ := z
          rw [hk9] at h
          dsimp only at h
          refine ay_t_call (pc := 41) (w := some (.int y7)) fe_79_41 (ay_args [.ref 56, .int 1] [.ref 56] rfl rfl (Nat.le_of_ble_eq_true rfl) (Nat.le_of_ble_eq_true rfl)) (ay_rcvV at_56 rfl) (ev_73 hk9) ?_
          refine ay_t_put (pc := 44) fe_79_44 at_56 (by decide +kernel) rfl rfl ?_
          cases h
          exact ay_t_vret fe_79_47 rfl
      · rw [if_neg hc6] at h
        refine ay_t_neg (pc := 22) hc6 fe_79_22 rfl ?_
        refine ay_t_loc (pc := 25) fe_79_25 rfl ?_
        refine ay_t_stk (pc := 26) (S' := [.ref 56, .ref 56]) fe_79_26 rfl ?_
        refine ay_t_getI (pc := 27) fe_79_27 at_56 (by decide +kernel) rfl ?_
        refine ay_t_stk (pc := 30) (S' := [.int 1, .int (D4 56 2), .ref 56]) fe_79_30 rfl ?_
        refine ay_t_stk (pc := 31) (S' := [.int ((D4 56 2) + 1), .ref 56]) fe_79_31 rfl ?_
        refine ay_t_put (pc := 32) fe_79_32 at_56 (by decide +kernel) rfl rfl ?_
        refine ay_t_br (pc := 35) (pc' := 47) fe_79_35 rfl ?_
        cases h
        exact ay_t_vret fe_79_47 rfl
def fn_80 (a1 : Int32) (D : am_DD) : Option (Int32 × am_DD) := some ((D 8 0), (rw_put (rw_put (rw_put (am_upd D 8 0 ((D 8 0) + 1)) 12 12 (D 8 0) a1) 16 24 (2 * (D 8 0)) 20) 16 24 ((2 * (D 8 0)) + 1) 20))
set_option maxHeartbeats 2000000 in
theorem ev_80 {a1 : Int32} {D : am_DD} {y : Int32} {Z : am_DD} (h : fn_80 a1 D = some (y, Z)) : ay_mo 80 [.ref 8, .int a1] D (.inl (some (.int y))) Z := by
  unfold fn_80 at h
  refine ay_m_of (L := [some (.ref 8), some (.int a1), none]) rfl ?_
  refine ay_t_loc (pc := 0) fe_80_0 rfl ?_
  refine ay_t_getI (pc := 1) fe_80_1 at_8 (by decide +kernel) rfl ?_
  refine ay_t_loc (pc := 4) (L' := [some (.ref 8), some (.int a1), some (.int (D 8 0))]) fe_80_4 rfl ?_
  refine ay_t_loc (pc := 5) fe_80_5 rfl ?_
  refine ay_t_stk (pc := 6) (S' := [.ref 8, .ref 8]) fe_80_6 rfl ?_
  refine ay_t_getI (pc := 7) fe_80_7 at_8 (by decide +kernel) rfl ?_
  refine ay_t_stk (pc := 10) (S' := [.int 1, .int (D 8 0), .ref 8]) fe_80_10 rfl ?_
  refine ay_t_stk (pc := 11) (S' := [.int ((D 8 0) + 1), .ref 8]) fe_80_11 rfl ?_
  refine ay_t_put (pc := 12) fe_80_12 at_8 (by decide +kernel) rfl rfl ?_
  refine ay_t_loc (pc := 15) fe_80_15 rfl ?_
  refine ay_t_getR (pc := 16) (w := .ref 11) fe_80_16 at_8 (by decide +kernel) rfl ?_
  refine ay_t_loc (pc := 19) fe_80_19 rfl ?_
  refine ay_t_loc (pc := 20) fe_80_20 rfl ?_
  refine ay_t_call (pc := 21) (w := none) fe_80_21 (ay_args [.ref 11, .int (D 8 0), .int a1] [] rfl rfl (Nat.le_of_ble_eq_true rfl) (Nat.le_of_ble_eq_true rfl)) (ay_rcvV at_11 rfl) (mt_put at_11 at_12 (by decide)) ?_
  refine ay_t_loc (pc := 24) fe_80_24 rfl ?_
  refine ay_t_getR (pc := 25) (w := .ref 15) fe_80_25 at_8 (by decide +kernel) rfl ?_
  refine ay_t_stk (pc := 28) (S' := [.int 2, .ref 15]) fe_80_28 rfl ?_
  refine ay_t_loc (pc := 29) fe_80_29 rfl ?_
  refine ay_t_stk (pc := 30) (S' := [.int (2 * (D 8 0)), .ref 15]) fe_80_30 rfl ?_
  refine ay_t_stk (pc := 31) (S' := [.int 20, .int (2 * (D 8 0)), .ref 15]) fe_80_31 rfl ?_
  refine ay_t_call (pc := 33) (w := none) fe_80_33 (ay_args [.ref 15, .int (2 * (D 8 0)), .int 20] [] rfl rfl (Nat.le_of_ble_eq_true rfl) (Nat.le_of_ble_eq_true rfl)) (ay_rcvV at_15 rfl) (mt_put at_15 at_16 (by decide)) ?_
  refine ay_t_loc (pc := 36) fe_80_36 rfl ?_
  refine ay_t_getR (pc := 37) (w := .ref 15) fe_80_37 at_8 (by decide +kernel) rfl ?_
  refine ay_t_stk (pc := 40) (S' := [.int 2, .ref 15]) fe_80_40 rfl ?_
  refine ay_t_loc (pc := 41) fe_80_41 rfl ?_
  refine ay_t_stk (pc := 42) (S' := [.int (2 * (D 8 0)), .ref 15]) fe_80_42 rfl ?_
  refine ay_t_stk (pc := 43) (S' := [.int 1, .int (2 * (D 8 0)), .ref 15]) fe_80_43 rfl ?_
  refine ay_t_stk (pc := 44) (S' := [.int ((2 * (D 8 0)) + 1), .ref 15]) fe_80_44 rfl ?_
  refine ay_t_stk (pc := 45) (S' := [.int 20, .int ((2 * (D 8 0)) + 1), .ref 15]) fe_80_45 rfl ?_
  refine ay_t_call (pc := 47) (w := none) fe_80_47 (ay_args [.ref 15, .int ((2 * (D 8 0)) + 1), .int 20] [] rfl rfl (Nat.le_of_ble_eq_true rfl) (Nat.le_of_ble_eq_true rfl)) (ay_rcvV at_15 rfl) (mt_put at_15 at_16 (by decide)) ?_
  refine ay_t_loc (pc := 50) fe_80_50 rfl ?_
  cases h
  exact ay_t_iret fe_80_51 rfl rfl
def fn_81 (a1 : Int32) (D : am_DD) : Option (Int32 × Nat × am_DD) := (match fn_71 a1 D with | none => none | some (y1, D2) => (if ¬ y1 = 0 then (match fn_72 D2 with | none => none | some (y5, D6) => (if ¬ y5 = 0 then (match fn_79 D6 with | none => none | some (y9, D10) => (match fn_80 a1 D10 with | none => none | some (y12, D13) => some (y12, 0, D13))) else some (0, 2, D6))) else some (0, 1, D2)))
set_option maxHeartbeats 2000000 in
theorem ev_81 {a1 : Int32} {D : am_DD} {y : Int32} {k : Nat} {Z : am_DD} (h : fn_81 a1 D = some (y, k, Z)) : ay_mo 81 [.ref 0, .int a1] D (ay_oc y k) Z := by
  unfold fn_81 at h
  refine ay_m_of (L := [some (.ref 0), some (.int a1)]) rfl ?_
  refine ay_t_loc (pc := 0) fe_81_0 rfl ?_
  cases hk3 : fn_71 a1 D with
  | none => rw [hk3] at h; cases h
  | some z =>
    obtain ⟨y1, D2⟩ := z
    rw [hk3] at h
    dsimp only at h
    refine ay_t_call (pc := 1) (w := some (.int y1)) fe_81_1 (ay_args [.int a1] [] rfl rfl (Nat.le_of_ble_eq_true rfl) (Nat.le_of_ble_eq_true rfl)) rfl (ev_71 hk3) ?_
    by_cases hc4 : ¬ y1 = 0
    · rw [if_pos hc4] at h
      refine ay_t_pos (pc := 4) hc4 fe_81_4 rfl ?_
      refine ay_t_loc (pc := 17) fe_81_17 rfl ?_
      refine ay_t_getR (pc := 18) (w := .ref 1) fe_81_18 at_0 (by decide +kernel) rfl ?_
      refine ay_t_getR (pc := 21) (w := .ref 8) fe_81_21 at_1 (by decide +kernel) rfl ?_
      cases hk7 : fn_72 D2 with
      | none => rw [hk7] at h; cases h
      | some z =>
        obtain ⟨y5, D6⟩ := z
        rw [hk7] at h
        dsimp only at h
        refine ay_t_call (pc := 24) (w := some (.int y5)) fe_81_24 (ay_args [.ref 8] [] rfl rfl (Nat.le_of_ble_eq_true rfl) (Nat.le_of_ble_eq_true rfl)) (ay_rcvV at_8 rfl) (ev_72 hk7) ?_
        by_cases hc8 : ¬ y5 = 0
        · rw [if_pos hc8] at h
          refine ay_t_pos (pc := 27) hc8 fe_81_27 rfl ?_
          refine ay_t_loc (pc := 40) fe_81_40 rfl ?_
          refine ay_t_getR (pc := 41) (w := .ref 56) fe_81_41 at_0 (by decide +kernel) rfl ?_
          refine ay_t_loc (pc := 44) fe_81_44 rfl ?_
          refine ay_t_getR (pc := 45) (w := .ref 1) fe_81_45 at_0 (by decide +kernel) rfl ?_
          cases hk11 : fn_79 D6 with
          | none => rw [hk11] at h; cases h
          | some z =>
            obtain ⟨y9, D10⟩ := z
            rw [hk11] at h
            dsimp only at h
            refine ay_t_call (pc := 48) (w := none) fe_81_48 (ay_args [.ref 56, .ref 1] [] rfl rfl (Nat.le_of_ble_eq_true rfl) (Nat.le_of_ble_eq_true rfl)) (ay_rcvV at_56 rfl) (ev_79 hk11) ?_
            refine ay_t_loc (pc := 51) fe_81_51 rfl ?_
            refine ay_t_getR (pc := 52) (w := .ref 1) fe_81_52 at_0 (by decide +kernel) rfl ?_
            refine ay_t_getR (pc := 55) (w := .ref 8) fe_81_55 at_1 (by decide +kernel) rfl ?_
            refine ay_t_loc (pc := 58) fe_81_58 rfl ?_
            cases hk14 : fn_80 a1 D10 with
            | none => rw [hk14] at h; cases h
            | some z =>
              obtain ⟨y12, D13⟩ := z
              rw [hk14] at h
              dsimp only at h
              refine ay_t_call (pc := 59) (w := some (.int y12)) fe_81_59 (ay_args [.ref 8, .int a1] [] rfl rfl (Nat.le_of_ble_eq_true rfl) (Nat.le_of_ble_eq_true rfl)) (ay_rcvV at_8 rfl) (ev_80 hk14) ?_
              cases h
              exact ay_t_iret fe_81_62 rfl rfl
        · rw [if_neg hc8] at h
          refine ay_t_neg (pc := 27) hc8 fe_81_27 rfl ?_
          cases h
          exact ay_t_thr fe_81_30 (by decide)
    · rw [if_neg hc4] at h
      refine ay_t_neg (pc := 4) hc4 fe_81_4 rfl ?_
      cases h
      exact ay_t_thr fe_81_7 (by decide)
def fn_82 (a1 a2 : Int32) (D : am_DD) : Option (Int32 × am_DD) := (match fn_34 a1 D with | none => none | some (y1, D2) => (if y1 = 0 then some (0, D2) else (if a2 = 0 then some (1, D2) else (if ¬ a2 = 1 then some (0, D2) else some (1, D2)))))
set_option maxHeartbeats 2000000 in
theorem ev_82 {a1 a2 : Int32} {D : am_DD} {y : Int32} {Z : am_DD} (h : fn_82 a1 a2 D = some (y, Z)) : ay_mo 82 [.ref 8, .int a1, .int a2] D (.inl (some (.int y))) Z := by
  unfold fn_82 at h
  refine ay_m_of (L := [some (.ref 8), some (.int a1), some (.int a2)]) rfl ?_
  refine ay_t_loc (pc := 0) fe_82_0 rfl ?_
  refine ay_t_loc (pc := 1) fe_82_1 rfl ?_
  cases hk3 : fn_34 a1 D with
  | none => rw [hk3] at h; cases h
  | some z =>
    obtain ⟨y1, D2⟩ := z
    rw [hk3] at h
    dsimp only at h
    refine ay_t_call (pc := 2) (w := some (.int y1)) fe_82_2 (ay_args [.ref 8, .int a1] [] rfl rfl (Nat.le_of_ble_eq_true rfl) (Nat.le_of_ble_eq_true rfl)) (ay_rcvV at_8 rfl) (ev_34 hk3) ?_
    by_cases hc4 : y1 = 0
    · rw [if_pos hc4] at h
      refine ay_t_pos (pc := 5) hc4 fe_82_5 rfl ?_
      refine ay_t_stk (pc := 21) (S' := [.int 0]) fe_82_21 rfl ?_
      cases h
      exact ay_t_iret fe_82_22 rfl rfl
    · rw [if_neg hc4] at h
      refine ay_t_neg (pc := 5) hc4 fe_82_5 rfl ?_
      refine ay_t_loc (pc := 8) fe_82_8 rfl ?_
      by_cases hc5 : a2 = 0
      · rw [if_pos hc5] at h
        refine ay_t_pos (pc := 9) hc5 fe_82_9 rfl ?_
        refine ay_t_stk (pc := 17) (S' := [.int 1]) fe_82_17 rfl ?_
        refine ay_t_br (pc := 18) (pc' := 22) fe_82_18 rfl ?_
        cases h
        exact ay_t_iret fe_82_22 rfl rfl
      · rw [if_neg hc5] at h
        refine ay_t_neg (pc := 9) hc5 fe_82_9 rfl ?_
        refine ay_t_loc (pc := 12) fe_82_12 rfl ?_
        refine ay_t_stk (pc := 13) (S' := [.int 1, .int a2]) fe_82_13 rfl ?_
        by_cases hc6 : ¬ a2 = 1
        · rw [if_pos hc6] at h
          refine ay_t_pos (pc := 14) hc6 fe_82_14 rfl ?_
          refine ay_t_stk (pc := 21) (S' := [.int 0]) fe_82_21 rfl ?_
          cases h
          exact ay_t_iret fe_82_22 rfl rfl
        · rw [if_neg hc6] at h
          refine ay_t_neg (pc := 14) hc6 fe_82_14 rfl ?_
          refine ay_t_stk (pc := 17) (S' := [.int 1]) fe_82_17 rfl ?_
          refine ay_t_br (pc := 18) (pc' := 22) fe_82_18 rfl ?_
          cases h
          exact ay_t_iret fe_82_22 rfl rfl
def fn_84 (a1 a2 a3 : Int32) (D : am_DD) : Option (Int32 × am_DD) := some ((rw_at (D 16) 24 ((2 * a1) + a2)), (rw_put D 16 24 ((2 * a1) + a2) a3))
set_option maxHeartbeats 2000000 in
theorem ev_84 {a1 a2 a3 : Int32} {D : am_DD} {y : Int32} {Z : am_DD} (h : fn_84 a1 a2 a3 D = some (y, Z)) : ay_mo 84 [.ref 8, .int a1, .int a2, .int a3] D (.inl (some (.int y))) Z := by
  unfold fn_84 at h
  refine ay_m_of (L := [some (.ref 8), some (.int a1), some (.int a2), some (.int a3)]) rfl ?_
  refine ay_t_loc (pc := 0) fe_84_0 rfl ?_
  refine ay_t_getR (pc := 1) (w := .ref 15) fe_84_1 at_8 (by decide +kernel) rfl ?_
  refine ay_t_stk (pc := 4) (S' := [.int 2, .ref 15]) fe_84_4 rfl ?_
  refine ay_t_loc (pc := 5) fe_84_5 rfl ?_
  refine ay_t_stk (pc := 6) (S' := [.int (2 * a1), .ref 15]) fe_84_6 rfl ?_
  refine ay_t_loc (pc := 7) fe_84_7 rfl ?_
  refine ay_t_stk (pc := 8) (S' := [.int ((2 * a1) + a2), .ref 15]) fe_84_8 rfl ?_
  refine ay_t_loc (pc := 9) fe_84_9 rfl ?_
  refine ay_t_call (pc := 10) (w := some (.int (rw_at (D 16) 24 ((2 * a1) + a2)))) fe_84_10 (ay_args [.ref 15, .int ((2 * a1) + a2), .int a3] [] rfl rfl (Nat.le_of_ble_eq_true rfl) (Nat.le_of_ble_eq_true rfl)) (ay_rcvV at_15 rfl) (mt_exch at_15 at_16 (by decide)) ?_
  cases h
  exact ay_t_iret fe_84_13 rfl rfl
def fn_85 (a1 a2 a3 : Int32) (D : am_DD) : Option (Int32 × Nat × am_DD) := (match fn_82 a1 a2 D with | none => none | some (y1, D2) => (if y1 = 0 then some (0, 3, D2) else (match fn_55 a3 D2 with | none => none | some (y5, D6) => (if ¬ y5 = 0 then (if a1 < a3 then (match fn_79 D6 with | none => none | some (y10, D11) => (match fn_84 a1 a2 a3 D11 with | none => none | some (y13, D14) => some (y13, 0, D14))) else some (0, 1, D6)) else some (0, 3, D6)))))
set_option maxHeartbeats 2000000 in
theorem ev_85 {a1 a2 a3 : Int32} {D : am_DD} {y : Int32} {k : Nat} {Z : am_DD} (h : fn_85 a1 a2 a3 D = some (y, k, Z)) : ay_mo 85 [.ref 0, .int a1, .int a2, .int a3] D (ay_oc y k) Z := by
  unfold fn_85 at h
  refine ay_m_of (L := [some (.ref 0), some (.int a1), some (.int a2), some (.int a3)]) rfl ?_
  refine ay_t_loc (pc := 0) fe_85_0 rfl ?_
  refine ay_t_getR (pc := 1) (w := .ref 1) fe_85_1 at_0 (by decide +kernel) rfl ?_
  refine ay_t_getR (pc := 4) (w := .ref 8) fe_85_4 at_1 (by decide +kernel) rfl ?_
  refine ay_t_loc (pc := 7) fe_85_7 rfl ?_
  refine ay_t_loc (pc := 8) fe_85_8 rfl ?_
  cases hk3 : fn_82 a1 a2 D with
  | none => rw [hk3] at h; cases h
  | some z =>
    obtain ⟨y1, D2⟩ := z
    rw [hk3] at h
    dsimp only at h
    refine ay_t_call (pc := 9) (w := some (.int y1)) fe_85_9 (ay_args [.ref 8, .int a1, .int a2] [] rfl rfl (Nat.le_of_ble_eq_true rfl) (Nat.le_of_ble_eq_true rfl)) (ay_rcvV at_8 rfl) (ev_82 hk3) ?_
    by_cases hc4 : y1 = 0
    · rw [if_pos hc4] at h
      refine ay_t_pos (pc := 12) hc4 fe_85_12 rfl ?_
      cases h
      exact ay_t_thr fe_85_29 (by decide)
    · rw [if_neg hc4] at h
      refine ay_t_neg (pc := 12) hc4 fe_85_12 rfl ?_
      refine ay_t_loc (pc := 15) fe_85_15 rfl ?_
      refine ay_t_getR (pc := 16) (w := .ref 1) fe_85_16 at_0 (by decide +kernel) rfl ?_
      refine ay_t_getR (pc := 19) (w := .ref 8) fe_85_19 at_1 (by decide +kernel) rfl ?_
      refine ay_t_loc (pc := 22) fe_85_22 rfl ?_
      cases hk7 : fn_55 a3 D2 with
      | none => rw [hk7] at h; cases h
      | some z =>
        obtain ⟨y5, D6⟩ := z
        rw [hk7] at h
        dsimp only at h
        refine ay_t_call (pc := 23) (w := some (.int y5)) fe_85_23 (ay_args [.ref 8, .int a3] [] rfl rfl (Nat.le_of_ble_eq_true rfl) (Nat.le_of_ble_eq_true rfl)) (ay_rcvV at_8 rfl) (ev_55 hk7) ?_
        by_cases hc8 : ¬ y5 = 0
        · rw [if_pos hc8] at h
          refine ay_t_pos (pc := 26) hc8 fe_85_26 rfl ?_
          refine ay_t_loc (pc := 39) fe_85_39 rfl ?_
          refine ay_t_loc (pc := 40) fe_85_40 rfl ?_
          by_cases hc9 : a1 < a3
          · rw [if_pos hc9] at h
            refine ay_t_pos (pc := 41) hc9 fe_85_41 rfl ?_
            refine ay_t_loc (pc := 54) fe_85_54 rfl ?_
            refine ay_t_getR (pc := 55) (w := .ref 56) fe_85_55 at_0 (by decide +kernel) rfl ?_
            refine ay_t_loc (pc := 58) fe_85_58 rfl ?_
            refine ay_t_getR (pc := 59) (w := .ref 1) fe_85_59 at_0 (by decide +kernel) rfl ?_
            cases hk12 : fn_79 D6 with
            | none => rw [hk12] at h; cases h
            | some z =>
              obtain ⟨y10, D11⟩ := z
              rw [hk12] at h
              dsimp only at h
              refine ay_t_call (pc := 62) (w := none) fe_85_62 (ay_args [.ref 56, .ref 1] [] rfl rfl (Nat.le_of_ble_eq_true rfl) (Nat.le_of_ble_eq_true rfl)) (ay_rcvV at_56 rfl) (ev_79 hk12) ?_
              refine ay_t_loc (pc := 65) fe_85_65 rfl ?_
              refine ay_t_getR (pc := 66) (w := .ref 1) fe_85_66 at_0 (by decide +kernel) rfl ?_
              refine ay_t_getR (pc := 69) (w := .ref 8) fe_85_69 at_1 (by decide +kernel) rfl ?_
              refine ay_t_loc (pc := 72) fe_85_72 rfl ?_
              refine ay_t_loc (pc := 73) fe_85_73 rfl ?_
              refine ay_t_loc (pc := 74) fe_85_74 rfl ?_
              cases hk15 : fn_84 a1 a2 a3 D11 with
              | none => rw [hk15] at h; cases h
              | some z =>
                obtain ⟨y13, D14⟩ := z
                rw [hk15] at h
                dsimp only at h
                refine ay_t_call (pc := 75) (w := some (.int y13)) fe_85_75 (ay_args [.ref 8, .int a1, .int a2, .int a3] [] rfl rfl (Nat.le_of_ble_eq_true rfl) (Nat.le_of_ble_eq_true rfl)) (ay_rcvV at_8 rfl) (ev_84 hk15) ?_
                cases h
                exact ay_t_iret fe_85_78 rfl rfl
          · rw [if_neg hc9] at h
            refine ay_t_neg (pc := 41) hc9 fe_85_41 rfl ?_
            cases h
            exact ay_t_thr fe_85_44 (by decide)
        · rw [if_neg hc8] at h
          refine ay_t_neg (pc := 26) hc8 fe_85_26 rfl ?_
          cases h
          exact ay_t_thr fe_85_29 (by decide)
def fn_86 (a1 : Int32) (D : am_DD) : Option (Int32 × am_DD) := some ((rw_at ((rw_put (rw_raise D 14 12 a1 1) 10 12 a1 (1 - (rw_at ((rw_raise D 14 12 a1 1) 10) 12 a1))) 10) 12 a1), (rw_put (rw_raise D 14 12 a1 1) 10 12 a1 (1 - (rw_at ((rw_raise D 14 12 a1 1) 10) 12 a1))))
set_option maxHeartbeats 2000000 in
theorem ev_86 {a1 : Int32} {D : am_DD} {y : Int32} {Z : am_DD} (h : fn_86 a1 D = some (y, Z)) : ay_mo 86 [.ref 8, .int a1] D (.inl (some (.int y))) Z := by
  unfold fn_86 at h
  refine ay_m_of (L := [some (.ref 8), some (.int a1)]) rfl ?_
  refine ay_t_loc (pc := 0) fe_86_0 rfl ?_
  refine ay_t_getR (pc := 1) (w := .ref 13) fe_86_1 at_8 (by decide +kernel) rfl ?_
  refine ay_t_loc (pc := 4) fe_86_4 rfl ?_
  refine ay_t_stk (pc := 5) (S' := [.int 1, .int a1, .ref 13]) fe_86_5 rfl ?_
  refine ay_t_call (pc := 6) (w := none) fe_86_6 (ay_args [.ref 13, .int a1, .int 1] [] rfl rfl (Nat.le_of_ble_eq_true rfl) (Nat.le_of_ble_eq_true rfl)) (ay_rcvV at_13 rfl) (mt_raise at_13 at_14 (by decide)) ?_
  refine ay_t_loc (pc := 9) fe_86_9 rfl ?_
  refine ay_t_getR (pc := 10) (w := .ref 9) fe_86_10 at_8 (by decide +kernel) rfl ?_
  refine ay_t_loc (pc := 13) fe_86_13 rfl ?_
  refine ay_t_stk (pc := 14) (S' := [.int 1, .int a1, .ref 9]) fe_86_14 rfl ?_
  refine ay_t_loc (pc := 15) fe_86_15 rfl ?_
  refine ay_t_getR (pc := 16) (w := .ref 9) fe_86_16 at_8 (by decide +kernel) rfl ?_
  refine ay_t_loc (pc := 19) fe_86_19 rfl ?_
  refine ay_t_call (pc := 20) (w := some (.int (rw_at ((rw_raise D 14 12 a1 1) 10) 12 a1))) fe_86_20 (ay_args [.ref 9, .int a1] [.int 1, .int a1, .ref 9] rfl rfl (Nat.le_of_ble_eq_true rfl) (Nat.le_of_ble_eq_true rfl)) (ay_rcvV at_9 rfl) (mt_at at_9 at_10 (by decide)) ?_
  refine ay_t_stk (pc := 23) (S' := [.int (1 - (rw_at ((rw_raise D 14 12 a1 1) 10) 12 a1)), .int a1, .ref 9]) fe_86_23 rfl ?_
  refine ay_t_call (pc := 24) (w := none) fe_86_24 (ay_args [.ref 9, .int a1, .int (1 - (rw_at ((rw_raise D 14 12 a1 1) 10) 12 a1))] [] rfl rfl (Nat.le_of_ble_eq_true rfl) (Nat.le_of_ble_eq_true rfl)) (ay_rcvV at_9 rfl) (mt_put at_9 at_10 (by decide)) ?_
  refine ay_t_loc (pc := 27) fe_86_27 rfl ?_
  refine ay_t_getR (pc := 28) (w := .ref 9) fe_86_28 at_8 (by decide +kernel) rfl ?_
  refine ay_t_loc (pc := 31) fe_86_31 rfl ?_
  refine ay_t_call (pc := 32) (w := some (.int (rw_at ((rw_put (rw_raise D 14 12 a1 1) 10 12 a1 (1 - (rw_at ((rw_raise D 14 12 a1 1) 10) 12 a1))) 10) 12 a1))) fe_86_32 (ay_args [.ref 9, .int a1] [] rfl rfl (Nat.le_of_ble_eq_true rfl) (Nat.le_of_ble_eq_true rfl)) (ay_rcvV at_9 rfl) (mt_at at_9 at_10 (by decide)) ?_
  cases h
  exact ay_t_iret fe_86_35 rfl rfl
def fn_87 (a1 : Int32) (D : am_DD) : Option (Int32 × Nat × am_DD) := (match fn_34 a1 D with | none => none | some (y1, D2) => (if ¬ y1 = 0 then (match fn_79 D2 with | none => none | some (y5, D6) => (match fn_86 a1 D6 with | none => none | some (y8, D9) => some (y8, 0, D9))) else some (0, 3, D2)))
set_option maxHeartbeats 2000000 in
theorem ev_87 {a1 : Int32} {D : am_DD} {y : Int32} {k : Nat} {Z : am_DD} (h : fn_87 a1 D = some (y, k, Z)) : ay_mo 87 [.ref 0, .int a1] D (ay_oc y k) Z := by
  unfold fn_87 at h
  refine ay_m_of (L := [some (.ref 0), some (.int a1)]) rfl ?_
  refine ay_t_loc (pc := 0) fe_87_0 rfl ?_
  refine ay_t_getR (pc := 1) (w := .ref 1) fe_87_1 at_0 (by decide +kernel) rfl ?_
  refine ay_t_getR (pc := 4) (w := .ref 8) fe_87_4 at_1 (by decide +kernel) rfl ?_
  refine ay_t_loc (pc := 7) fe_87_7 rfl ?_
  cases hk3 : fn_34 a1 D with
  | none => rw [hk3] at h; cases h
  | some z =>
    obtain ⟨y1, D2⟩ := z
    rw [hk3] at h
    dsimp only at h
    refine ay_t_call (pc := 8) (w := some (.int y1)) fe_87_8 (ay_args [.ref 8, .int a1] [] rfl rfl (Nat.le_of_ble_eq_true rfl) (Nat.le_of_ble_eq_true rfl)) (ay_rcvV at_8 rfl) (ev_34 hk3) ?_
    by_cases hc4 : ¬ y1 = 0
    · rw [if_pos hc4] at h
      refine ay_t_pos (pc := 11) hc4 fe_87_11 rfl ?_
      refine ay_t_loc (pc := 24) fe_87_24 rfl ?_
      refine ay_t_getR (pc := 25) (w := .ref 56) fe_87_25 at_0 (by decide +kernel) rfl ?_
      refine ay_t_loc (pc := 28) fe_87_28 rfl ?_
      refine ay_t_getR (pc := 29) (w := .ref 1) fe_87_29 at_0 (by decide +kernel) rfl ?_
      cases hk7 : fn_79 D2 with
      | none => rw [hk7] at h; cases h
      | some z =>
        obtain ⟨y5, D6⟩ := z
        rw [hk7] at h
        dsimp only at h
        refine ay_t_call (pc := 32) (w := none) fe_87_32 (ay_args [.ref 56, .ref 1] [] rfl rfl (Nat.le_of_ble_eq_true rfl) (Nat.le_of_ble_eq_true rfl)) (ay_rcvV at_56 rfl) (ev_79 hk7) ?_
        refine ay_t_loc (pc := 35) fe_87_35 rfl ?_
        refine ay_t_getR (pc := 36) (w := .ref 1) fe_87_36 at_0 (by decide +kernel) rfl ?_
        refine ay_t_getR (pc := 39) (w := .ref 8) fe_87_39 at_1 (by decide +kernel) rfl ?_
        refine ay_t_loc (pc := 42) fe_87_42 rfl ?_
        cases hk10 : fn_86 a1 D6 with
        | none => rw [hk10] at h; cases h
        | some z =>
          obtain ⟨y8, D9⟩ := z
          rw [hk10] at h
          dsimp only at h
          refine ay_t_call (pc := 43) (w := some (.int y8)) fe_87_43 (ay_args [.ref 8, .int a1] [] rfl rfl (Nat.le_of_ble_eq_true rfl) (Nat.le_of_ble_eq_true rfl)) (ay_rcvV at_8 rfl) (ev_86 hk10) ?_
          cases h
          exact ay_t_iret fe_87_46 rfl rfl
    · rw [if_neg hc4] at h
      refine ay_t_neg (pc := 11) hc4 fe_87_11 rfl ?_
      cases h
      exact ay_t_thr fe_87_14 (by decide)
def fn_88 (a1 a2 : Int32) (D : am_DD) : Option (Int32 × Nat × am_DD) := (if a1 = 0 then (if a2 < 1 then some (0, 1, D) else (if ¬ a1 = 0 then (if a2 ≤ 40 then (match fn_79 D with | none => none | some (y5, D6) => some ((rw_at (D6 3) 2 a1), 0, (rw_put D6 3 2 a1 a2))) else some (0, 1, D)) else (if a2 ≤ 9 then (match fn_79 D with | none => none | some (y9, D10) => some ((rw_at (D10 3) 2 a1), 0, (rw_put D10 3 2 a1 a2))) else some (0, 1, D)))) else (if a1 = 1 then (if a2 < 1 then some (0, 1, D) else (if ¬ a1 = 0 then (if a2 ≤ 40 then (match fn_79 D with | none => none | some (y16, D17) => some ((rw_at (D17 3) 2 a1), 0, (rw_put D17 3 2 a1 a2))) else some (0, 1, D)) else (if a2 ≤ 9 then (match fn_79 D with | none => none | some (y20, D21) => some ((rw_at (D21 3) 2 a1), 0, (rw_put D21 3 2 a1 a2))) else some (0, 1, D)))) else some (0, 3, D)))
set_option maxHeartbeats 2000000 in
theorem ev_88 {a1 a2 : Int32} {D : am_DD} {y : Int32} {k : Nat} {Z : am_DD} (h : fn_88 a1 a2 D = some (y, k, Z)) : ay_mo 88 [.ref 0, .int a1, .int a2] D (ay_oc y k) Z := by
  unfold fn_88 at h
  refine ay_m_of (L := [some (.ref 0), some (.int a1), some (.int a2)]) rfl ?_
  refine ay_t_loc (pc := 0) fe_88_0 rfl ?_
  by_cases hc1 : a1 = 0
  · rw [if_pos hc1] at h
    refine ay_t_pos (pc := 1) hc1 fe_88_1 rfl ?_
    refine ay_t_loc (pc := 19) fe_88_19 rfl ?_
    refine ay_t_stk (pc := 20) (S' := [.int 1, .int a2]) fe_88_20 rfl ?_
    by_cases hc2 : a2 < 1
    · rw [if_pos hc2] at h
      refine ay_t_pos (pc := 21) hc2 fe_88_21 rfl ?_
      cases h
      exact ay_t_thr fe_88_39 (by decide)
    · rw [if_neg hc2] at h
      refine ay_t_neg (pc := 21) hc2 fe_88_21 rfl ?_
      refine ay_t_loc (pc := 24) fe_88_24 rfl ?_
      refine ay_t_loc (pc := 25) fe_88_25 rfl ?_
      by_cases hc3 : ¬ a1 = 0
      · rw [if_pos hc3] at h
        refine ay_t_pos (pc := 26) hc3 fe_88_26 rfl ?_
        refine ay_t_stk (pc := 34) (S' := [.int 40, .int a2]) fe_88_34 rfl ?_
        by_cases hc4 : a2 ≤ 40
        · rw [if_pos hc4] at h
          refine ay_t_pos (pc := 36) hc4 fe_88_36 rfl ?_
          refine ay_t_loc (pc := 49) fe_88_49 rfl ?_
          refine ay_t_getR (pc := 50) (w := .ref 56) fe_88_50 at_0 (by decide +kernel) rfl ?_
          refine ay_t_loc (pc := 53) fe_88_53 rfl ?_
          refine ay_t_getR (pc := 54) (w := .ref 1) fe_88_54 at_0 (by decide +kernel) rfl ?_
          cases hk7 : fn_79 D with
          | none => rw [hk7] at h; cases h
          | some z =>
            obtain ⟨y5, D6⟩ := z
            rw [hk7] at h
            dsimp only at h
            refine ay_t_call (pc := 57) (w := none) fe_88_57 (ay_args [.ref 56, .ref 1] [] rfl rfl (Nat.le_of_ble_eq_true rfl) (Nat.le_of_ble_eq_true rfl)) (ay_rcvV at_56 rfl) (ev_79 hk7) ?_
            refine ay_t_loc (pc := 60) fe_88_60 rfl ?_
            refine ay_t_getR (pc := 61) (w := .ref 1) fe_88_61 at_0 (by decide +kernel) rfl ?_
            refine ay_t_getR (pc := 64) (w := .ref 2) fe_88_64 at_1 (by decide +kernel) rfl ?_
            refine ay_t_loc (pc := 67) fe_88_67 rfl ?_
            refine ay_t_loc (pc := 68) fe_88_68 rfl ?_
            refine ay_t_call (pc := 69) (w := some (.int (rw_at (D6 3) 2 a1))) fe_88_69 (ay_args [.ref 2, .int a1, .int a2] [] rfl rfl (Nat.le_of_ble_eq_true rfl) (Nat.le_of_ble_eq_true rfl)) (ay_rcvV at_2 rfl) (mt_exch at_2 at_3 (by decide)) ?_
            cases h
            exact ay_t_iret fe_88_72 rfl rfl
        · rw [if_neg hc4] at h
          refine ay_t_neg (pc := 36) hc4 fe_88_36 rfl ?_
          cases h
          exact ay_t_thr fe_88_39 (by decide)
      · rw [if_neg hc3] at h
        refine ay_t_neg (pc := 26) hc3 fe_88_26 rfl ?_
        refine ay_t_stk (pc := 29) (S' := [.int 9, .int a2]) fe_88_29 rfl ?_
        refine ay_t_br (pc := 31) (pc' := 36) fe_88_31 rfl ?_
        by_cases hc8 : a2 ≤ 9
        · rw [if_pos hc8] at h
          refine ay_t_pos (pc := 36) hc8 fe_88_36 rfl ?_
          refine ay_t_loc (pc := 49) fe_88_49 rfl ?_
          refine ay_t_getR (pc := 50) (w := .ref 56) fe_88_50 at_0 (by decide +kernel) rfl ?_
          refine ay_t_loc (pc := 53) fe_88_53 rfl ?_
          refine ay_t_getR (pc := 54) (w := .ref 1) fe_88_54 at_0 (by decide +kernel) rfl ?_
          cases hk11 : fn_79 D with
          | none => rw [hk11] at h; cases h
          | some z =>
            obtain ⟨y9, D10⟩ := z
            rw [hk11] at h
            dsimp only at h
            refine ay_t_call (pc := 57) (w := none) fe_88_57 (ay_args [.ref 56, .ref 1] [] rfl rfl (Nat.le_of_ble_eq_true rfl) (Nat.le_of_ble_eq_true rfl)) (ay_rcvV at_56 rfl) (ev_79 hk11) ?_
            refine ay_t_loc (pc := 60) fe_88_60 rfl ?_
            refine ay_t_getR (pc := 61) (w := .ref 1) fe_88_61 at_0 (by decide +kernel) rfl ?_
            refine ay_t_getR (pc := 64) (w := .ref 2) fe_88_64 at_1 (by decide +kernel) rfl ?_
            refine ay_t_loc (pc := 67) fe_88_67 rfl ?_
            refine ay_t_loc (pc := 68) fe_88_68 rfl ?_
            refine ay_t_call (pc := 69) (w := some (.int (rw_at (D10 3) 2 a1))) fe_88_69 (ay_args [.ref 2, .int a1, .int a2] [] rfl rfl (Nat.le_of_ble_eq_true rfl) (Nat.le_of_ble_eq_true rfl)) (ay_rcvV at_2 rfl) (mt_exch at_2 at_3 (by decide)) ?_
            cases h
            exact ay_t_iret fe_88_72 rfl rfl
        · rw [if_neg hc8] at h
          refine ay_t_neg (pc := 36) hc8 fe_88_36 rfl ?_
          cases h
          exact ay_t_thr fe_88_39 (by decide)
  · rw [if_neg hc1] at h
    refine ay_t_neg (pc := 1) hc1 fe_88_1 rfl ?_
    refine ay_t_loc (pc := 4) fe_88_4 rfl ?_
    refine ay_t_stk (pc := 5) (S' := [.int 1, .int a1]) fe_88_5 rfl ?_
    by_cases hc12 : a1 = 1
    · rw [if_pos hc12] at h
      refine ay_t_pos (pc := 6) hc12 fe_88_6 rfl ?_
      refine ay_t_loc (pc := 19) fe_88_19 rfl ?_
      refine ay_t_stk (pc := 20) (S' := [.int 1, .int a2]) fe_88_20 rfl ?_
      by_cases hc13 : a2 < 1
      · rw [if_pos hc13] at h
        refine ay_t_pos (pc := 21) hc13 fe_88_21 rfl ?_
        cases h
        exact ay_t_thr fe_88_39 (by decide)
      · rw [if_neg hc13] at h
        refine ay_t_neg (pc := 21) hc13 fe_88_21 rfl ?_
        refine ay_t_loc (pc := 24) fe_88_24 rfl ?_
        refine ay_t_loc (pc := 25) fe_88_25 rfl ?_
        by_cases hc14 : ¬ a1 = 0
        · rw [if_pos hc14] at h
          refine ay_t_pos (pc := 26) hc14 fe_88_26 rfl ?_
          refine ay_t_stk (pc := 34) (S' := [.int 40, .int a2]) fe_88_34 rfl ?_
          by_cases hc15 : a2 ≤ 40
          · rw [if_pos hc15] at h
            refine ay_t_pos (pc := 36) hc15 fe_88_36 rfl ?_
            refine ay_t_loc (pc := 49) fe_88_49 rfl ?_
            refine ay_t_getR (pc := 50) (w := .ref 56) fe_88_50 at_0 (by decide +kernel) rfl ?_
            refine ay_t_loc (pc := 53) fe_88_53 rfl ?_
            refine ay_t_getR (pc := 54) (w := .ref 1) fe_88_54 at_0 (by decide +kernel) rfl ?_
            cases hk18 : fn_79 D with
            | none => rw [hk18] at h; cases h
            | some z =>
              obtain ⟨y16, D17⟩ := z
              rw [hk18] at h
              dsimp only at h
              refine ay_t_call (pc := 57) (w := none) fe_88_57 (ay_args [.ref 56, .ref 1] [] rfl rfl (Nat.le_of_ble_eq_true rfl) (Nat.le_of_ble_eq_true rfl)) (ay_rcvV at_56 rfl) (ev_79 hk18) ?_
              refine ay_t_loc (pc := 60) fe_88_60 rfl ?_
              refine ay_t_getR (pc := 61) (w := .ref 1) fe_88_61 at_0 (by decide +kernel) rfl ?_
              refine ay_t_getR (pc := 64) (w := .ref 2) fe_88_64 at_1 (by decide +kernel) rfl ?_
              refine ay_t_loc (pc := 67) fe_88_67 rfl ?_
              refine ay_t_loc (pc := 68) fe_88_68 rfl ?_
              refine ay_t_call (pc := 69) (w := some (.int (rw_at (D17 3) 2 a1))) fe_88_69 (ay_args [.ref 2, .int a1, .int a2] [] rfl rfl (Nat.le_of_ble_eq_true rfl) (Nat.le_of_ble_eq_true rfl)) (ay_rcvV at_2 rfl) (mt_exch at_2 at_3 (by decide)) ?_
              cases h
              exact ay_t_iret fe_88_72 rfl rfl
          · rw [if_neg hc15] at h
            refine ay_t_neg (pc := 36) hc15 fe_88_36 rfl ?_
            cases h
            exact ay_t_thr fe_88_39 (by decide)
        · rw [if_neg hc14] at h
          refine ay_t_neg (pc := 26) hc14 fe_88_26 rfl ?_
          refine ay_t_stk (pc := 29) (S' := [.int 9, .int a2]) fe_88_29 rfl ?_
          refine ay_t_br (pc := 31) (pc' := 36) fe_88_31 rfl ?_
          by_cases hc19 : a2 ≤ 9
          · rw [if_pos hc19] at h
            refine ay_t_pos (pc := 36) hc19 fe_88_36 rfl ?_
            refine ay_t_loc (pc := 49) fe_88_49 rfl ?_
            refine ay_t_getR (pc := 50) (w := .ref 56) fe_88_50 at_0 (by decide +kernel) rfl ?_
            refine ay_t_loc (pc := 53) fe_88_53 rfl ?_
            refine ay_t_getR (pc := 54) (w := .ref 1) fe_88_54 at_0 (by decide +kernel) rfl ?_
            cases hk22 : fn_79 D with
            | none => rw [hk22] at h; cases h
            | some z =>
              obtain ⟨y20, D21⟩ := z
              rw [hk22] at h
              dsimp only at h
              refine ay_t_call (pc := 57) (w := none) fe_88_57 (ay_args [.ref 56, .ref 1] [] rfl rfl (Nat.le_of_ble_eq_true rfl) (Nat.le_of_ble_eq_true rfl)) (ay_rcvV at_56 rfl) (ev_79 hk22) ?_
              refine ay_t_loc (pc := 60) fe_88_60 rfl ?_
              refine ay_t_getR (pc := 61) (w := .ref 1) fe_88_61 at_0 (by decide +kernel) rfl ?_
              refine ay_t_getR (pc := 64) (w := .ref 2) fe_88_64 at_1 (by decide +kernel) rfl ?_
              refine ay_t_loc (pc := 67) fe_88_67 rfl ?_
              refine ay_t_loc (pc := 68) fe_88_68 rfl ?_
              refine ay_t_call (pc := 69) (w := some (.int (rw_at (D21 3) 2 a1))) fe_88_69 (ay_args [.ref 2, .int a1, .int a2] [] rfl rfl (Nat.le_of_ble_eq_true rfl) (Nat.le_of_ble_eq_true rfl)) (ay_rcvV at_2 rfl) (mt_exch at_2 at_3 (by decide)) ?_
              cases h
              exact ay_t_iret fe_88_72 rfl rfl
          · rw [if_neg hc19] at h
            refine ay_t_neg (pc := 36) hc19 fe_88_36 rfl ?_
            cases h
            exact ay_t_thr fe_88_39 (by decide)
    · rw [if_neg hc12] at h
      refine ay_t_neg (pc := 6) hc12 fe_88_6 rfl ?_
      cases h
      exact ay_t_thr fe_88_9 (by decide)
def fn_89 (a1 : Int32) (D : am_DD) : Option (Int32 × am_DD) := some ((rw_at (D 5) 5 a1), (am_upd (rw_put D 5 5 a1 0) 1 1 (((rw_put D 5 5 a1 0) 1 1) + (rw_at (D 5) 5 a1))))
set_option maxHeartbeats 2000000 in
theorem ev_89 {a1 : Int32} {D : am_DD} {y : Int32} {Z : am_DD} (h : fn_89 a1 D = some (y, Z)) : ay_mo 89 [.ref 1, .int a1] D (.inl (some (.int y))) Z := by
  unfold fn_89 at h
  refine ay_m_of (L := [some (.ref 1), some (.int a1), none]) rfl ?_
  refine ay_t_loc (pc := 0) fe_89_0 rfl ?_
  refine ay_t_getR (pc := 1) (w := .ref 4) fe_89_1 at_1 (by decide +kernel) rfl ?_
  refine ay_t_loc (pc := 4) fe_89_4 rfl ?_
  refine ay_t_stk (pc := 5) (S' := [.int 0, .int a1, .ref 4]) fe_89_5 rfl ?_
  refine ay_t_call (pc := 6) (w := some (.int (rw_at (D 5) 5 a1))) fe_89_6 (ay_args [.ref 4, .int a1, .int 0] [] rfl rfl (Nat.le_of_ble_eq_true rfl) (Nat.le_of_ble_eq_true rfl)) (ay_rcvV at_4 rfl) (mt_exch at_4 at_5 (by decide)) ?_
  refine ay_t_loc (pc := 9) (L' := [some (.ref 1), some (.int a1), some (.int (rw_at (D 5) 5 a1))]) fe_89_9 rfl ?_
  refine ay_t_loc (pc := 10) fe_89_10 rfl ?_
  refine ay_t_stk (pc := 11) (S' := [.ref 1, .ref 1]) fe_89_11 rfl ?_
  refine ay_t_getI (pc := 12) fe_89_12 at_1 (by decide +kernel) rfl ?_
  refine ay_t_loc (pc := 15) fe_89_15 rfl ?_
  refine ay_t_stk (pc := 16) (S' := [.int (((rw_put D 5 5 a1 0) 1 1) + (rw_at (D 5) 5 a1)), .ref 1]) fe_89_16 rfl ?_
  refine ay_t_put (pc := 17) fe_89_17 at_1 (by decide +kernel) rfl rfl ?_
  refine ay_t_loc (pc := 20) fe_89_20 rfl ?_
  cases h
  exact ay_t_iret fe_89_21 rfl rfl
def fn_90 (a1 : Int32) (D : am_DD) : Option (Int32 × Nat × am_DD) := (match fn_30 a1 D with | none => none | some (y1, D2) => (if ¬ y1 = 0 then (match fn_79 D2 with | none => none | some (y5, D6) => (match fn_89 a1 D6 with | none => none | some (y8, D9) => some (y8, 0, D9))) else some (0, 3, D2)))
set_option maxHeartbeats 2000000 in
theorem ev_90 {a1 : Int32} {D : am_DD} {y : Int32} {k : Nat} {Z : am_DD} (h : fn_90 a1 D = some (y, k, Z)) : ay_mo 90 [.ref 0, .int a1] D (ay_oc y k) Z := by
  unfold fn_90 at h
  refine ay_m_of (L := [some (.ref 0), some (.int a1)]) rfl ?_
  refine ay_t_loc (pc := 0) fe_90_0 rfl ?_
  cases hk3 : fn_30 a1 D with
  | none => rw [hk3] at h; cases h
  | some z =>
    obtain ⟨y1, D2⟩ := z
    rw [hk3] at h
    dsimp only at h
    refine ay_t_call (pc := 1) (w := some (.int y1)) fe_90_1 (ay_args [.int a1] [] rfl rfl (Nat.le_of_ble_eq_true rfl) (Nat.le_of_ble_eq_true rfl)) rfl (ev_30 hk3) ?_
    by_cases hc4 : ¬ y1 = 0
    · rw [if_pos hc4] at h
      refine ay_t_pos (pc := 4) hc4 fe_90_4 rfl ?_
      refine ay_t_loc (pc := 17) fe_90_17 rfl ?_
      refine ay_t_getR (pc := 18) (w := .ref 56) fe_90_18 at_0 (by decide +kernel) rfl ?_
      refine ay_t_loc (pc := 21) fe_90_21 rfl ?_
      refine ay_t_getR (pc := 22) (w := .ref 1) fe_90_22 at_0 (by decide +kernel) rfl ?_
      cases hk7 : fn_79 D2 with
      | none => rw [hk7] at h; cases h
      | some z =>
        obtain ⟨y5, D6⟩ := z
        rw [hk7] at h
        dsimp only at h
        refine ay_t_call (pc := 25) (w := none) fe_90_25 (ay_args [.ref 56, .ref 1] [] rfl rfl (Nat.le_of_ble_eq_true rfl) (Nat.le_of_ble_eq_true rfl)) (ay_rcvV at_56 rfl) (ev_79 hk7) ?_
        refine ay_t_loc (pc := 28) fe_90_28 rfl ?_
        refine ay_t_getR (pc := 29) (w := .ref 1) fe_90_29 at_0 (by decide +kernel) rfl ?_
        refine ay_t_loc (pc := 32) fe_90_32 rfl ?_
        cases hk10 : fn_89 a1 D6 with
        | none => rw [hk10] at h; cases h
        | some z =>
          obtain ⟨y8, D9⟩ := z
          rw [hk10] at h
          dsimp only at h
          refine ay_t_call (pc := 33) (w := some (.int y8)) fe_90_33 (ay_args [.ref 1, .int a1] [] rfl rfl (Nat.le_of_ble_eq_true rfl) (Nat.le_of_ble_eq_true rfl)) (ay_rcvV at_1 rfl) (ev_89 hk10) ?_
          cases h
          exact ay_t_iret fe_90_36 rfl rfl
    · rw [if_neg hc4] at h
      refine ay_t_neg (pc := 4) hc4 fe_90_4 rfl ?_
      cases h
      exact ay_t_thr fe_90_7 (by decide)
def fn_91 (a1 : Int32) (D : am_DD) : Option (Int32 × am_DD) := (if 200 < ((D 1 2) + a1) then some (0, D) else some (1, D))
set_option maxHeartbeats 2000000 in
theorem ev_91 {a1 : Int32} {D : am_DD} {y : Int32} {Z : am_DD} (h : fn_91 a1 D = some (y, Z)) : ay_mo 91 [.ref 1, .int a1] D (.inl (some (.int y))) Z := by
  unfold fn_91 at h
  refine ay_m_of (L := [some (.ref 1), some (.int a1)]) rfl ?_
  refine ay_t_loc (pc := 0) fe_91_0 rfl ?_
  refine ay_t_getI (pc := 1) fe_91_1 at_1 (by decide +kernel) rfl ?_
  refine ay_t_loc (pc := 4) fe_91_4 rfl ?_
  refine ay_t_stk (pc := 5) (S' := [.int ((D 1 2) + a1)]) fe_91_5 rfl ?_
  refine ay_t_stk (pc := 6) (S' := [.int 200, .int ((D 1 2) + a1)]) fe_91_6 rfl ?_
  by_cases hc1 : 200 < ((D 1 2) + a1)
  · rw [if_pos hc1] at h
    refine ay_t_pos (pc := 9) hc1 fe_91_9 rfl ?_
    refine ay_t_stk (pc := 16) (S' := [.int 0]) fe_91_16 rfl ?_
    cases h
    exact ay_t_iret fe_91_17 rfl rfl
  · rw [if_neg hc1] at h
    refine ay_t_neg (pc := 9) hc1 fe_91_9 rfl ?_
    refine ay_t_stk (pc := 12) (S' := [.int 1]) fe_91_12 rfl ?_
    refine ay_t_br (pc := 13) (pc' := 17) fe_91_13 rfl ?_
    cases h
    exact ay_t_iret fe_91_17 rfl rfl
def fn_92 (a1 : Int32) (D : am_DD) : Option (Int32 × am_DD) := some (((am_upd D 1 2 ((D 1 2) + a1)) 1 2), (am_upd D 1 2 ((D 1 2) + a1)))
set_option maxHeartbeats 2000000 in
theorem ev_92 {a1 : Int32} {D : am_DD} {y : Int32} {Z : am_DD} (h : fn_92 a1 D = some (y, Z)) : ay_mo 92 [.ref 1, .int a1] D (.inl (some (.int y))) Z := by
  unfold fn_92 at h
  refine ay_m_of (L := [some (.ref 1), some (.int a1)]) rfl ?_
  refine ay_t_loc (pc := 0) fe_92_0 rfl ?_
  refine ay_t_stk (pc := 1) (S' := [.ref 1, .ref 1]) fe_92_1 rfl ?_
  refine ay_t_getI (pc := 2) fe_92_2 at_1 (by decide +kernel) rfl ?_
  refine ay_t_loc (pc := 5) fe_92_5 rfl ?_
  refine ay_t_stk (pc := 6) (S' := [.int ((D 1 2) + a1), .ref 1]) fe_92_6 rfl ?_
  refine ay_t_put (pc := 7) fe_92_7 at_1 (by decide +kernel) rfl rfl ?_
  refine ay_t_loc (pc := 10) fe_92_10 rfl ?_
  refine ay_t_getI (pc := 11) fe_92_11 at_1 (by decide +kernel) rfl ?_
  cases h
  exact ay_t_iret fe_92_14 rfl rfl
def fn_93 (a1 : Int32) (D : am_DD) : Option (Int32 × Nat × am_DD) := (if a1 < 1 then some (0, 1, D) else (if a1 ≤ 40 then (match fn_91 a1 D with | none => none | some (y3, D4) => (if ¬ y3 = 0 then (match fn_79 D4 with | none => none | some (y7, D8) => (match fn_92 a1 D8 with | none => none | some (y10, D11) => some (y10, 0, D11))) else some (0, 2, D4))) else some (0, 1, D)))
set_option maxHeartbeats 2000000 in
theorem ev_93 {a1 : Int32} {D : am_DD} {y : Int32} {k : Nat} {Z : am_DD} (h : fn_93 a1 D = some (y, k, Z)) : ay_mo 93 [.ref 0, .int a1] D (ay_oc y k) Z := by
  unfold fn_93 at h
  refine ay_m_of (L := [some (.ref 0), some (.int a1)]) rfl ?_
  refine ay_t_loc (pc := 0) fe_93_0 rfl ?_
  refine ay_t_stk (pc := 1) (S' := [.int 1, .int a1]) fe_93_1 rfl ?_
  by_cases hc1 : a1 < 1
  · rw [if_pos hc1] at h
    refine ay_t_pos (pc := 2) hc1 fe_93_2 rfl ?_
    cases h
    exact ay_t_thr fe_93_11 (by decide)
  · rw [if_neg hc1] at h
    refine ay_t_neg (pc := 2) hc1 fe_93_2 rfl ?_
    refine ay_t_loc (pc := 5) fe_93_5 rfl ?_
    refine ay_t_stk (pc := 6) (S' := [.int 40, .int a1]) fe_93_6 rfl ?_
    by_cases hc2 : a1 ≤ 40
    · rw [if_pos hc2] at h
      refine ay_t_pos (pc := 8) hc2 fe_93_8 rfl ?_
      refine ay_t_loc (pc := 21) fe_93_21 rfl ?_
      refine ay_t_getR (pc := 22) (w := .ref 1) fe_93_22 at_0 (by decide +kernel) rfl ?_
      refine ay_t_loc (pc := 25) fe_93_25 rfl ?_
      cases hk5 : fn_91 a1 D with
      | none => rw [hk5] at h; cases h
      | some z =>
        obtain ⟨y3, D4⟩ := z
        rw [hk5] at h
        dsimp only at h
        refine ay_t_call (pc := 26) (w := some (.int y3)) fe_93_26 (ay_args [.ref 1, .int a1] [] rfl rfl (Nat.le_of_ble_eq_true rfl) (Nat.le_of_ble_eq_true rfl)) (ay_rcvV at_1 rfl) (ev_91 hk5) ?_
        by_cases hc6 : ¬ y3 = 0
        · rw [if_pos hc6] at h
          refine ay_t_pos (pc := 29) hc6 fe_93_29 rfl ?_
          refine ay_t_loc (pc := 42) fe_93_42 rfl ?_
          refine ay_t_getR (pc := 43) (w := .ref 56) fe_93_43 at_0 (by decide +kernel) rfl ?_
          refine ay_t_loc (pc := 46) fe_93_46 rfl ?_
          refine ay_t_getR (pc := 47) (w := .ref 1) fe_93_47 at_0 (by decide +kernel) rfl ?_
          cases hk9 : fn_79 D4 with
          | none => rw [hk9] at h; cases h
          | some z =>
            obtain ⟨y7, D8⟩ := z
            rw [hk9] at h
            dsimp only at h
            refine ay_t_call (pc := 50) (w := none) fe_93_50 (ay_args [.ref 56, .ref 1] [] rfl rfl (Nat.le_of_ble_eq_true rfl) (Nat.le_of_ble_eq_true rfl)) (ay_rcvV at_56 rfl) (ev_79 hk9) ?_
            refine ay_t_loc (pc := 53) fe_93_53 rfl ?_
            refine ay_t_getR (pc := 54) (w := .ref 1) fe_93_54 at_0 (by decide +kernel) rfl ?_
            refine ay_t_loc (pc := 57) fe_93_57 rfl ?_
            cases hk12 : fn_92 a1 D8 with
            | none => rw [hk12] at h; cases h
            | some z =>
              obtain ⟨y10, D11⟩ := z
              rw [hk12] at h
              dsimp only at h
              refine ay_t_call (pc := 58) (w := some (.int y10)) fe_93_58 (ay_args [.ref 1, .int a1] [] rfl rfl (Nat.le_of_ble_eq_true rfl) (Nat.le_of_ble_eq_true rfl)) (ay_rcvV at_1 rfl) (ev_92 hk12) ?_
              cases h
              exact ay_t_iret fe_93_61 rfl rfl
        · rw [if_neg hc6] at h
          refine ay_t_neg (pc := 29) hc6 fe_93_29 rfl ?_
          cases h
          exact ay_t_thr fe_93_32 (by decide)
    · rw [if_neg hc2] at h
      refine ay_t_neg (pc := 8) hc2 fe_93_8 rfl ?_
      cases h
      exact ay_t_thr fe_93_11 (by decide)
def fn_95 (a1 a2 a3 : Int32) (D : am_DD) : Option (Int32 × am_DD) := (match fn_16 (D 26 1) D with | none => none | some (y1, D2) => (if 60 ≤ ((am_upd (rw_put (rw_put (rw_put D2 28 60 y1 a1) 30 60 y1 a2) 32 60 y1 a3) 26 2 (((rw_put (rw_put (rw_put D2 28 60 y1 a1) 30 60 y1 a2) 32 60 y1 a3) 26 2) + 1)) 26 1) then (match fn_16 1 (am_upd (rw_put (rw_put (rw_put D2 28 60 y1 a1) 30 60 y1 a2) 32 60 y1 a3) 26 2 (((rw_put (rw_put (rw_put D2 28 60 y1 a1) 30 60 y1 a2) 32 60 y1 a3) 26 2) + 1)) with | none => none | some (y5, D6) => some (0, (am_upd D6 26 0 y5))) else some (0, (am_upd (am_upd (rw_put (rw_put (rw_put D2 28 60 y1 a1) 30 60 y1 a2) 32 60 y1 a3) 26 2 (((rw_put (rw_put (rw_put D2 28 60 y1 a1) 30 60 y1 a2) 32 60 y1 a3) 26 2) + 1)) 26 1 (((am_upd (rw_put (rw_put (rw_put D2 28 60 y1 a1) 30 60 y1 a2) 32 60 y1 a3) 26 2 (((rw_put (rw_put (rw_put D2 28 60 y1 a1) 30 60 y1 a2) 32 60 y1 a3) 26 2) + 1)) 26 1) + 1)))))
set_option maxHeartbeats 2000000 in
theorem ev_95 {a1 a2 a3 : Int32} {D : am_DD} {y : Int32} {Z : am_DD} (h : fn_95 a1 a2 a3 D = some (y, Z)) : ay_mo 95 [.ref 26, .int a1, .int a2, .int a3] D (.inl none) Z := by
  unfold fn_95 at h
  refine ay_m_of (L := [some (.ref 26), some (.int a1), some (.int a2), some (.int a3), none]) rfl ?_
  refine ay_t_loc (pc := 0) fe_95_0 rfl ?_
  refine ay_t_loc (pc := 1) fe_95_1 rfl ?_
  refine ay_t_getI (pc := 2) fe_95_2 at_26 (by decide +kernel) rfl ?_
  cases hk3 : fn_16 (D 26 1) D with
  | none => rw [hk3] at h; cases h
  | some z =>
    obtain ⟨y1, D2⟩ := z
    rw [hk3] at h
    dsimp only at h
    refine ay_t_call (pc := 5) (w := some (.int y1)) fe_95_5 (ay_args [.ref 26, .int (D 26 1)] [] rfl rfl (Nat.le_of_ble_eq_true rfl) (Nat.le_of_ble_eq_true rfl)) (ay_rcvV at_26 rfl) (ev_16 hk3) ?_
    refine ay_t_loc (pc := 8) (L' := [some (.ref 26), some (.int a1), some (.int a2), some (.int a3), some (.int y1)]) fe_95_8 rfl ?_
    refine ay_t_loc (pc := 10) fe_95_10 rfl ?_
    refine ay_t_getR (pc := 11) (w := .ref 27) fe_95_11 at_26 (by decide +kernel) rfl ?_
    refine ay_t_loc (pc := 14) fe_95_14 rfl ?_
    refine ay_t_loc (pc := 16) fe_95_16 rfl ?_
    refine ay_t_call (pc := 17) (w := none) fe_95_17 (ay_args [.ref 27, .int y1, .int a1] [] rfl rfl (Nat.le_of_ble_eq_true rfl) (Nat.le_of_ble_eq_true rfl)) (ay_rcvV at_27 rfl) (mt_put at_27 at_28 (by decide)) ?_
    refine ay_t_loc (pc := 20) fe_95_20 rfl ?_
    refine ay_t_getR (pc := 21) (w := .ref 29) fe_95_21 at_26 (by decide +kernel) rfl ?_
    refine ay_t_loc (pc := 24) fe_95_24 rfl ?_
    refine ay_t_loc (pc := 26) fe_95_26 rfl ?_
    refine ay_t_call (pc := 27) (w := none) fe_95_27 (ay_args [.ref 29, .int y1, .int a2] [] rfl rfl (Nat.le_of_ble_eq_true rfl) (Nat.le_of_ble_eq_true rfl)) (ay_rcvV at_29 rfl) (mt_put at_29 at_30 (by decide)) ?_
    refine ay_t_loc (pc := 30) fe_95_30 rfl ?_
    refine ay_t_getR (pc := 31) (w := .ref 31) fe_95_31 at_26 (by decide +kernel) rfl ?_
    refine ay_t_loc (pc := 34) fe_95_34 rfl ?_
    refine ay_t_loc (pc := 36) fe_95_36 rfl ?_
    refine ay_t_call (pc := 37) (w := none) fe_95_37 (ay_args [.ref 31, .int y1, .int a3] [] rfl rfl (Nat.le_of_ble_eq_true rfl) (Nat.le_of_ble_eq_true rfl)) (ay_rcvV at_31 rfl) (mt_put at_31 at_32 (by decide)) ?_
    refine ay_t_loc (pc := 40) fe_95_40 rfl ?_
    refine ay_t_stk (pc := 41) (S' := [.ref 26, .ref 26]) fe_95_41 rfl ?_
    refine ay_t_getI (pc := 42) fe_95_42 at_26 (by decide +kernel) rfl ?_
    refine ay_t_stk (pc := 45) (S' := [.int 1, .int ((rw_put (rw_put (rw_put D2 28 60 y1 a1) 30 60 y1 a2) 32 60 y1 a3) 26 2), .ref 26]) fe_95_45 rfl ?_
    refine ay_t_stk (pc := 46) (S' := [.int (((rw_put (rw_put (rw_put D2 28 60 y1 a1) 30 60 y1 a2) 32 60 y1 a3) 26 2) + 1), .ref 26]) fe_95_46 rfl ?_
    refine ay_t_put (pc := 47) fe_95_47 at_26 (by decide +kernel) rfl rfl ?_
    refine ay_t_loc (pc := 50) fe_95_50 rfl ?_
    refine ay_t_getI (pc := 51) fe_95_51 at_26 (by decide +kernel) rfl ?_
    refine ay_t_stk (pc := 54) (S' := [.int 60, .int ((am_upd (rw_put (rw_put (rw_put D2 28 60 y1 a1) 30 60 y1 a2) 32 60 y1 a3) 26 2 (((rw_put (rw_put (rw_put D2 28 60 y1 a1) 30 60 y1 a2) 32 60 y1 a3) 26 2) + 1)) 26 1)]) fe_95_54 rfl ?_
    by_cases hc4 : 60 ≤ ((am_upd (rw_put (rw_put (rw_put D2 28 60 y1 a1) 30 60 y1 a2) 32 60 y1 a3) 26 2 (((rw_put (rw_put (rw_put D2 28 60 y1 a1) 30 60 y1 a2) 32 60 y1 a3) 26 2) + 1)) 26 1)
    · rw [if_pos hc4] at h
      refine ay_t_pos (pc := 56) hc4 fe_95_56 rfl ?_
      refine ay_t_loc (pc := 72) fe_95_72 rfl ?_
      refine ay_t_loc (pc := 73) fe_95_73 rfl ?_
      refine ay_t_stk (pc := 74) (S' := [.int 1, .ref 26, .ref 26]) fe_95_74 rfl ?_
      cases hk7 : fn_16 1 (am_upd (rw_put (rw_put (rw_put D2 28 60 y1 a1) 30 60 y1 a2) 32 60 y1 a3) 26 2 (((rw_put (rw_put (rw_put D2 28 60 y1 a1) 30 60 y1 a2) 32 60 y1 a3) 26 2) + 1)) with
      | none => rw [hk7] at h; cases h
      | some z =>
        obtain ⟨y5, D6⟩ := z
        rw [hk7] at h
        dsimp only at h
        refine ay_t_call (pc := 75) (w := some (.int y5)) fe_95_75 (ay_args [.ref 26, .int 1] [.ref 26] rfl rfl (Nat.le_of_ble_eq_true rfl) (Nat.le_of_ble_eq_true rfl)) (ay_rcvV at_26 rfl) (ev_16 hk7) ?_
        refine ay_t_put (pc := 78) fe_95_78 at_26 (by decide +kernel) rfl rfl ?_
        cases h
        exact ay_t_vret fe_95_81 rfl
    · rw [if_neg hc4] at h
      refine ay_t_neg (pc := 56) hc4 fe_95_56 rfl ?_
      refine ay_t_loc (pc := 59) fe_95_59 rfl ?_
      refine ay_t_stk (pc := 60) (S' := [.ref 26, .ref 26]) fe_95_60 rfl ?_
      refine ay_t_getI (pc := 61) fe_95_61 at_26 (by decide +kernel) rfl ?_
      refine ay_t_stk (pc := 64) (S' := [.int 1, .int ((am_upd (rw_put (rw_put (rw_put D2 28 60 y1 a1) 30 60 y1 a2) 32 60 y1 a3) 26 2 (((rw_put (rw_put (rw_put D2 28 60 y1 a1) 30 60 y1 a2) 32 60 y1 a3) 26 2) + 1)) 26 1), .ref 26]) fe_95_64 rfl ?_
      refine ay_t_stk (pc := 65) (S' := [.int (((am_upd (rw_put (rw_put (rw_put D2 28 60 y1 a1) 30 60 y1 a2) 32 60 y1 a3) 26 2 (((rw_put (rw_put (rw_put D2 28 60 y1 a1) 30 60 y1 a2) 32 60 y1 a3) 26 2) + 1)) 26 1) + 1), .ref 26]) fe_95_65 rfl ?_
      refine ay_t_put (pc := 66) fe_95_66 at_26 (by decide +kernel) rfl rfl ?_
      refine ay_t_br (pc := 69) (pc' := 81) fe_95_69 rfl ?_
      cases h
      exact ay_t_vret fe_95_81 rfl
def fn_96 (a1 : Int32) (D : am_DD) : Option (Int32 × am_DD) := (match fn_31 a1 (rw_at (D 10) 12 a1) (rw_put (rw_raise D 18 24 ((2 * a1) + (rw_at (D 10) 12 a1)) 1) 10 12 a1 (1 - (rw_at (D 10) 12 a1))) with | none => none | some (y1, D2) => some (y1, D2))
set_option maxHeartbeats 2000000 in
theorem ev_96 {a1 : Int32} {D : am_DD} {y : Int32} {Z : am_DD} (h : fn_96 a1 D = some (y, Z)) : ay_mo 96 [.ref 8, .int a1] D (.inl (some (.int y))) Z := by
  unfold fn_96 at h
  refine ay_m_of (L := [some (.ref 8), some (.int a1), none]) rfl ?_
  refine ay_t_loc (pc := 0) fe_96_0 rfl ?_
  refine ay_t_getR (pc := 1) (w := .ref 9) fe_96_1 at_8 (by decide +kernel) rfl ?_
  refine ay_t_loc (pc := 4) fe_96_4 rfl ?_
  refine ay_t_call (pc := 5) (w := some (.int (rw_at (D 10) 12 a1))) fe_96_5 (ay_args [.ref 9, .int a1] [] rfl rfl (Nat.le_of_ble_eq_true rfl) (Nat.le_of_ble_eq_true rfl)) (ay_rcvV at_9 rfl) (mt_at at_9 at_10 (by decide)) ?_
  refine ay_t_loc (pc := 8) (L' := [some (.ref 8), some (.int a1), some (.int (rw_at (D 10) 12 a1))]) fe_96_8 rfl ?_
  refine ay_t_loc (pc := 9) fe_96_9 rfl ?_
  refine ay_t_getR (pc := 10) (w := .ref 17) fe_96_10 at_8 (by decide +kernel) rfl ?_
  refine ay_t_stk (pc := 13) (S' := [.int 2, .ref 17]) fe_96_13 rfl ?_
  refine ay_t_loc (pc := 14) fe_96_14 rfl ?_
  refine ay_t_stk (pc := 15) (S' := [.int (2 * a1), .ref 17]) fe_96_15 rfl ?_
  refine ay_t_loc (pc := 16) fe_96_16 rfl ?_
  refine ay_t_stk (pc := 17) (S' := [.int ((2 * a1) + (rw_at (D 10) 12 a1)), .ref 17]) fe_96_17 rfl ?_
  refine ay_t_stk (pc := 18) (S' := [.int 1, .int ((2 * a1) + (rw_at (D 10) 12 a1)), .ref 17]) fe_96_18 rfl ?_
  refine ay_t_call (pc := 19) (w := none) fe_96_19 (ay_args [.ref 17, .int ((2 * a1) + (rw_at (D 10) 12 a1)), .int 1] [] rfl rfl (Nat.le_of_ble_eq_true rfl) (Nat.le_of_ble_eq_true rfl)) (ay_rcvV at_17 rfl) (mt_raise at_17 at_18 (by decide)) ?_
  refine ay_t_loc (pc := 22) fe_96_22 rfl ?_
  refine ay_t_getR (pc := 23) (w := .ref 9) fe_96_23 at_8 (by decide +kernel) rfl ?_
  refine ay_t_loc (pc := 26) fe_96_26 rfl ?_
  refine ay_t_stk (pc := 27) (S' := [.int 1, .int a1, .ref 9]) fe_96_27 rfl ?_
  refine ay_t_loc (pc := 28) fe_96_28 rfl ?_
  refine ay_t_stk (pc := 29) (S' := [.int (1 - (rw_at (D 10) 12 a1)), .int a1, .ref 9]) fe_96_29 rfl ?_
  refine ay_t_call (pc := 30) (w := none) fe_96_30 (ay_args [.ref 9, .int a1, .int (1 - (rw_at (D 10) 12 a1))] [] rfl rfl (Nat.le_of_ble_eq_true rfl) (Nat.le_of_ble_eq_true rfl)) (ay_rcvV at_9 rfl) (mt_put at_9 at_10 (by decide)) ?_
  refine ay_t_loc (pc := 33) fe_96_33 rfl ?_
  refine ay_t_loc (pc := 34) fe_96_34 rfl ?_
  refine ay_t_loc (pc := 35) fe_96_35 rfl ?_
  cases hk3 : fn_31 a1 (rw_at (D 10) 12 a1) (rw_put (rw_raise D 18 24 ((2 * a1) + (rw_at (D 10) 12 a1)) 1) 10 12 a1 (1 - (rw_at (D 10) 12 a1))) with
  | none => rw [hk3] at h; cases h
  | some z =>
    obtain ⟨y1, D2⟩ := z
    rw [hk3] at h
    dsimp only at h
    refine ay_t_call (pc := 36) (w := some (.int y1)) fe_96_36 (ay_args [.ref 8, .int a1, .int (rw_at (D 10) 12 a1)] [] rfl rfl (Nat.le_of_ble_eq_true rfl) (Nat.le_of_ble_eq_true rfl)) (ay_rcvV at_8 rfl) (ev_31 hk3) ?_
    cases h
    exact ay_t_iret fe_96_39 rfl rfl
def fn_97 (a1 a2 a3 : Int32) (D : am_DD) : Option (Int32 × am_DD) := some (0, (rw_put (rw_put (rw_put D 21 40 a2 a3) 23 40 a2 (rw_at ((rw_put D 21 40 a2 a3) 23) 40 a1)) 25 40 a2 ((rw_at ((rw_put (rw_put D 21 40 a2 a3) 23 40 a2 (rw_at ((rw_put D 21 40 a2 a3) 23) 40 a1)) 25) 40 a1) + 1)))
set_option maxHeartbeats 2000000 in
theorem ev_97 {a1 a2 a3 : Int32} {D : am_DD} {y : Int32} {Z : am_DD} (h : fn_97 a1 a2 a3 D = some (y, Z)) : ay_mo 97 [.ref 19, .int a1, .int a2, .int a3] D (.inl none) Z := by
  unfold fn_97 at h
  refine ay_m_of (L := [some (.ref 19), some (.int a1), some (.int a2), some (.int a3)]) rfl ?_
  refine ay_t_loc (pc := 0) fe_97_0 rfl ?_
  refine ay_t_getR (pc := 1) (w := .ref 20) fe_97_1 at_19 (by decide +kernel) rfl ?_
  refine ay_t_loc (pc := 4) fe_97_4 rfl ?_
  refine ay_t_loc (pc := 5) fe_97_5 rfl ?_
  refine ay_t_call (pc := 6) (w := none) fe_97_6 (ay_args [.ref 20, .int a2, .int a3] [] rfl rfl (Nat.le_of_ble_eq_true rfl) (Nat.le_of_ble_eq_true rfl)) (ay_rcvV at_20 rfl) (mt_put at_20 at_21 (by decide)) ?_
  refine ay_t_loc (pc := 9) fe_97_9 rfl ?_
  refine ay_t_getR (pc := 10) (w := .ref 22) fe_97_10 at_19 (by decide +kernel) rfl ?_
  refine ay_t_loc (pc := 13) fe_97_13 rfl ?_
  refine ay_t_loc (pc := 14) fe_97_14 rfl ?_
  refine ay_t_getR (pc := 15) (w := .ref 22) fe_97_15 at_19 (by decide +kernel) rfl ?_
  refine ay_t_loc (pc := 18) fe_97_18 rfl ?_
  refine ay_t_call (pc := 19) (w := some (.int (rw_at ((rw_put D 21 40 a2 a3) 23) 40 a1))) fe_97_19 (ay_args [.ref 22, .int a1] [.int a2, .ref 22] rfl rfl (Nat.le_of_ble_eq_true rfl) (Nat.le_of_ble_eq_true rfl)) (ay_rcvV at_22 rfl) (mt_at at_22 at_23 (by decide)) ?_
  refine ay_t_call (pc := 22) (w := none) fe_97_22 (ay_args [.ref 22, .int a2, .int (rw_at ((rw_put D 21 40 a2 a3) 23) 40 a1)] [] rfl rfl (Nat.le_of_ble_eq_true rfl) (Nat.le_of_ble_eq_true rfl)) (ay_rcvV at_22 rfl) (mt_put at_22 at_23 (by decide)) ?_
  refine ay_t_loc (pc := 25) fe_97_25 rfl ?_
  refine ay_t_getR (pc := 26) (w := .ref 24) fe_97_26 at_19 (by decide +kernel) rfl ?_
  refine ay_t_loc (pc := 29) fe_97_29 rfl ?_
  refine ay_t_loc (pc := 30) fe_97_30 rfl ?_
  refine ay_t_getR (pc := 31) (w := .ref 24) fe_97_31 at_19 (by decide +kernel) rfl ?_
  refine ay_t_loc (pc := 34) fe_97_34 rfl ?_
  refine ay_t_call (pc := 35) (w := some (.int (rw_at ((rw_put (rw_put D 21 40 a2 a3) 23 40 a2 (rw_at ((rw_put D 21 40 a2 a3) 23) 40 a1)) 25) 40 a1))) fe_97_35 (ay_args [.ref 24, .int a1] [.int a2, .ref 24] rfl rfl (Nat.le_of_ble_eq_true rfl) (Nat.le_of_ble_eq_true rfl)) (ay_rcvV at_24 rfl) (mt_at at_24 at_25 (by decide)) ?_
  refine ay_t_stk (pc := 38) (S' := [.int 1, .int (rw_at ((rw_put (rw_put D 21 40 a2 a3) 23 40 a2 (rw_at ((rw_put D 21 40 a2 a3) 23) 40 a1)) 25) 40 a1), .int a2, .ref 24]) fe_97_38 rfl ?_
  refine ay_t_stk (pc := 39) (S' := [.int ((rw_at ((rw_put (rw_put D 21 40 a2 a3) 23 40 a2 (rw_at ((rw_put D 21 40 a2 a3) 23) 40 a1)) 25) 40 a1) + 1), .int a2, .ref 24]) fe_97_39 rfl ?_
  refine ay_t_call (pc := 40) (w := none) fe_97_40 (ay_args [.ref 24, .int a2, .int ((rw_at ((rw_put (rw_put D 21 40 a2 a3) 23 40 a2 (rw_at ((rw_put D 21 40 a2 a3) 23) 40 a1)) 25) 40 a1) + 1)] [] rfl rfl (Nat.le_of_ble_eq_true rfl) (Nat.le_of_ble_eq_true rfl)) (ay_rcvV at_24 rfl) (mt_put at_24 at_25 (by decide)) ?_
  cases h
  exact ay_t_vret fe_97_43 rfl
def fn_98_12 : Nat → Int32 → Int32 → Int32 → am_DD → Option (Int32 × am_DD)
  | 0, _, _, _, _ => none
  | n + 1, x1, x2, x3, D => (if x1 ≤ x3 then some (0, (am_upd D 19 0 x2)) else (match fn_95 (D 1 0) (rw_at (D 21) 40 x3) (rw_at (D 12) 12 (rw_at (D 21) 40 x3)) D with | none => none | some (y2, D3) => (match fn_96 (rw_at (D 21) 40 x3) D3 with | none => none | some (y5, D6) => (if 20 ≤ y5 then fn_98_12 n x1 x2 (x3 + 1) (rw_raise (rw_raise D6 5 5 (y5 - 20) 1) 7 5 (y5 - 20) 1) else (match fn_97 x3 x2 y5 D6 with | none => none | some (y9, D10) => fn_98_12 n x1 (x2 + 1) (x3 + 1) D10)))))
set_option maxHeartbeats 2000000 in
theorem ev_98_12 : ∀ (n : Nat) (x1 x2 x3 : Int32) (D : am_DD) (y : Int32) (Z : am_DD), fn_98_12 n x1 x2 x3 D = some (y, Z) → ay_to 98 12 [some (.ref 1), some (.int x1), some (.int x2), some (.int x3), none, none] [] D (.inl none) Z := by
  intro n
  induction n with
  | zero => intro x1 x2 x3 D y Z h; cases h
  | succ n ih =>
    intro x1 x2 x3 D y Z h
    rw [fn_98_12] at h
    refine ay_t_loc (pc := 12) fe_98_12 rfl ?_
    refine ay_t_loc (pc := 13) fe_98_13 rfl ?_
    by_cases hc1 : x1 ≤ x3
    · rw [if_pos hc1] at h
      refine ay_t_pos (pc := 14) hc1 fe_98_14 rfl ?_
      refine ay_t_loc (pc := 122) fe_98_122 rfl ?_
      refine ay_t_getR (pc := 123) (w := .ref 19) fe_98_123 at_1 (by decide +kernel) rfl ?_
      refine ay_t_loc (pc := 126) fe_98_126 rfl ?_
      refine ay_t_put (pc := 127) fe_98_127 at_19 (by decide +kernel) rfl rfl ?_
      cases h
      exact ay_t_vret fe_98_130 rfl
    · rw [if_neg hc1] at h
      refine ay_t_neg (pc := 14) hc1 fe_98_14 rfl ?_
      refine ay_t_loc (pc := 17) fe_98_17 rfl ?_
      refine ay_t_getR (pc := 18) (w := .ref 19) fe_98_18 at_1 (by decide +kernel) rfl ?_
      refine ay_t_getR (pc := 21) (w := .ref 20) fe_98_21 at_19 (by decide +kernel) rfl ?_
      refine ay_t_loc (pc := 24) fe_98_24 rfl ?_
      refine ay_t_call (pc := 25) (w := some (.int (rw_at (D 21) 40 x3))) fe_98_25 (ay_args [.ref 20, .int x3] [] rfl rfl (Nat.le_of_ble_eq_true rfl) (Nat.le_of_ble_eq_true rfl)) (ay_rcvV at_20 rfl) (mt_at at_20 at_21 (by decide)) ?_
      refine ay_t_loc (pc := 28) (L' := [some (.ref 1), some (.int x1), some (.int x2), some (.int x3), some (.int (rw_at (D 21) 40 x3)), none]) fe_98_28 rfl ?_
      refine ay_t_loc (pc := 30) fe_98_30 rfl ?_
      refine ay_t_getR (pc := 31) (w := .ref 26) fe_98_31 at_1 (by decide +kernel) rfl ?_
      refine ay_t_loc (pc := 34) fe_98_34 rfl ?_
      refine ay_t_getI (pc := 35) fe_98_35 at_1 (by decide +kernel) rfl ?_
      refine ay_t_loc (pc := 38) fe_98_38 rfl ?_
      refine ay_t_loc (pc := 40) fe_98_40 rfl ?_
      refine ay_t_getR (pc := 41) (w := .ref 8) fe_98_41 at_1 (by decide +kernel) rfl ?_
      refine ay_t_getR (pc := 44) (w := .ref 11) fe_98_44 at_8 (by decide +kernel) rfl ?_
      refine ay_t_loc (pc := 47) fe_98_47 rfl ?_
      refine ay_t_call (pc := 49) (w := some (.int (rw_at (D 12) 12 (rw_at (D 21) 40 x3)))) fe_98_49 (ay_args [.ref 11, .int (rw_at (D 21) 40 x3)] [.int (rw_at (D 21) 40 x3), .int (D 1 0), .ref 26] rfl rfl (Nat.le_of_ble_eq_true rfl) (Nat.le_of_ble_eq_true rfl)) (ay_rcvV at_11 rfl) (mt_at at_11 at_12 (by decide)) ?_
      cases hk4 : fn_95 (D 1 0) (rw_at (D 21) 40 x3) (rw_at (D 12) 12 (rw_at (D 21) 40 x3)) D with
      | none => rw [hk4] at h; cases h
      | some z =>
        obtain ⟨y2, D3⟩ := z
        rw [hk4] at h
        dsimp only at h
        refine ay_t_call (pc := 52) (w := none) fe_98_52 (ay_args [.ref 26, .int (D 1 0), .int (rw_at (D 21) 40 x3), .int (rw_at (D 12) 12 (rw_at (D 21) 40 x3))] [] rfl rfl (Nat.le_of_ble_eq_true rfl) (Nat.le_of_ble_eq_true rfl)) (ay_rcvV at_26 rfl) (ev_95 hk4) ?_
        refine ay_t_loc (pc := 55) fe_98_55 rfl ?_
        refine ay_t_getR (pc := 56) (w := .ref 8) fe_98_56 at_1 (by decide +kernel) rfl ?_
        refine ay_t_loc (pc := 59) fe_98_59 rfl ?_
        cases hk7 : fn_96 (rw_at (D 21) 40 x3) D3 with
        | none => rw [hk7] at h; cases h
        | some z =>
          obtain ⟨y5, D6⟩ := z
          rw [hk7] at h
          dsimp only at h
          refine ay_t_call (pc := 61) (w := some (.int y5)) fe_98_61 (ay_args [.ref 8, .int (rw_at (D 21) 40 x3)] [] rfl rfl (Nat.le_of_ble_eq_true rfl) (Nat.le_of_ble_eq_true rfl)) (ay_rcvV at_8 rfl) (ev_96 hk7) ?_
          refine ay_t_loc (pc := 64) (L' := [some (.ref 1), some (.int x1), some (.int x2), some (.int x3), some (.int (rw_at (D 21) 40 x3)), some (.int y5)]) fe_98_64 rfl ?_
          refine ay_t_loc (pc := 66) fe_98_66 rfl ?_
          refine ay_t_stk (pc := 68) (S' := [.int 20, .int y5]) fe_98_68 rfl ?_
          by_cases hc8 : 20 ≤ y5
          · rw [if_pos hc8] at h
            refine ay_t_pos (pc := 70) hc8 fe_98_70 rfl ?_
            refine ay_t_loc (pc := 90) fe_98_90 rfl ?_
            refine ay_t_getR (pc := 91) (w := .ref 4) fe_98_91 at_1 (by decide +kernel) rfl ?_
            refine ay_t_loc (pc := 94) fe_98_94 rfl ?_
            refine ay_t_stk (pc := 96) (S' := [.int 20, .int y5, .ref 4]) fe_98_96 rfl ?_
            refine ay_t_stk (pc := 98) (S' := [.int (y5 - 20), .ref 4]) fe_98_98 rfl ?_
            refine ay_t_stk (pc := 99) (S' := [.int 1, .int (y5 - 20), .ref 4]) fe_98_99 rfl ?_
            refine ay_t_call (pc := 100) (w := none) fe_98_100 (ay_args [.ref 4, .int (y5 - 20), .int 1] [] rfl rfl (Nat.le_of_ble_eq_true rfl) (Nat.le_of_ble_eq_true rfl)) (ay_rcvV at_4 rfl) (mt_raise at_4 at_5 (by decide)) ?_
            refine ay_t_loc (pc := 103) fe_98_103 rfl ?_
            refine ay_t_getR (pc := 104) (w := .ref 6) fe_98_104 at_1 (by decide +kernel) rfl ?_
            refine ay_t_loc (pc := 107) fe_98_107 rfl ?_
            refine ay_t_stk (pc := 109) (S' := [.int 20, .int y5, .ref 6]) fe_98_109 rfl ?_
            refine ay_t_stk (pc := 111) (S' := [.int (y5 - 20), .ref 6]) fe_98_111 rfl ?_
            refine ay_t_stk (pc := 112) (S' := [.int 1, .int (y5 - 20), .ref 6]) fe_98_112 rfl ?_
            refine ay_t_call (pc := 113) (w := none) fe_98_113 (ay_args [.ref 6, .int (y5 - 20), .int 1] [] rfl rfl (Nat.le_of_ble_eq_true rfl) (Nat.le_of_ble_eq_true rfl)) (ay_rcvV at_6 rfl) (mt_raise at_6 at_7 (by decide)) ?_
            refine ay_t_loc (pc := 116) (L' := [some (.ref 1), some (.int x1), some (.int x2), some (.int (x3 + 1)), some (.int (rw_at (D 21) 40 x3)), some (.int y5)]) fe_98_116 rfl ?_
            refine ay_t_br (pc := 119) (pc' := 12) fe_98_119 rfl ?_
            exact ay_t_less (ay_ls (ay_ls (ay_ls (ay_ls (ay_ln (ay_ln ay_l0)))))) (ih _ _ _ _ _ _ h)
          · rw [if_neg hc8] at h
            refine ay_t_neg (pc := 70) hc8 fe_98_70 rfl ?_
            refine ay_t_loc (pc := 73) fe_98_73 rfl ?_
            refine ay_t_getR (pc := 74) (w := .ref 19) fe_98_74 at_1 (by decide +kernel) rfl ?_
            refine ay_t_loc (pc := 77) fe_98_77 rfl ?_
            refine ay_t_loc (pc := 78) fe_98_78 rfl ?_
            refine ay_t_loc (pc := 79) fe_98_79 rfl ?_
            cases hk11 : fn_97 x3 x2 y5 D6 with
            | none => rw [hk11] at h; cases h
            | some z =>
              obtain ⟨y9, D10⟩ := z
              rw [hk11] at h
              dsimp only at h
              refine ay_t_call (pc := 81) (w := none) fe_98_81 (ay_args [.ref 19, .int x3, .int x2, .int y5] [] rfl rfl (Nat.le_of_ble_eq_true rfl) (Nat.le_of_ble_eq_true rfl)) (ay_rcvV at_19 rfl) (ev_97 hk11) ?_
              refine ay_t_loc (pc := 84) (L' := [some (.ref 1), some (.int x1), some (.int (x2 + 1)), some (.int x3), some (.int (rw_at (D 21) 40 x3)), some (.int y5)]) fe_98_84 rfl ?_
              refine ay_t_br (pc := 87) (pc' := 116) fe_98_87 rfl ?_
              refine ay_t_loc (pc := 116) (L' := [some (.ref 1), some (.int x1), some (.int (x2 + 1)), some (.int (x3 + 1)), some (.int (rw_at (D 21) 40 x3)), some (.int y5)]) fe_98_116 rfl ?_
              refine ay_t_br (pc := 119) (pc' := 12) fe_98_119 rfl ?_
              exact ay_t_less (ay_ls (ay_ls (ay_ls (ay_ls (ay_ln (ay_ln ay_l0)))))) (ih _ _ _ _ _ _ h)
def fn_98 (D : am_DD) : Option (Int32 × am_DD) := fn_98_12 am_F (D 19 0) 0 0 D
set_option maxHeartbeats 2000000 in
theorem ev_98 {D : am_DD} {y : Int32} {Z : am_DD} (h : fn_98  D = some (y, Z)) : ay_mo 98 [.ref 1] D (.inl none) Z := by
  unfold fn_98 at h
  refine ay_m_of (L := [some (.ref 1), none, none, none, none, none]) rfl ?_
  refine ay_t_loc (pc := 0) fe_98_0 rfl ?_
  refine ay_t_getR (pc := 1) (w := .ref 19) fe_98_1 at_1 (by decide +kernel) rfl ?_
  refine ay_t_getI (pc := 4) fe_98_4 at_19 (by decide +kernel) rfl ?_
  refine ay_t_loc (pc := 7) (L' := [some (.ref 1), some (.int (D 19 0)), none, none, none, none]) fe_98_7 rfl ?_
  refine ay_t_stk (pc := 8) (S' := [.int 0]) fe_98_8 rfl ?_
  refine ay_t_loc (pc := 9) (L' := [some (.ref 1), some (.int (D 19 0)), some (.int 0), none, none, none]) fe_98_9 rfl ?_
  refine ay_t_stk (pc := 10) (S' := [.int 0]) fe_98_10 rfl ?_
  refine ay_t_loc (pc := 11) (L' := [some (.ref 1), some (.int (D 19 0)), some (.int 0), some (.int 0), none, none]) fe_98_11 rfl ?_
  exact ay_t_less (ay_ls (ay_ls (ay_ls (ay_ls (ay_ls (ay_ls ay_l0)))))) (ev_98_12 _ _ _ _ _ _ _ h)
def fn_99 (a1 : Int32) (D : am_DD) : Option (Int32 × am_DD) := some (0, (am_upd (rw_put (rw_put (rw_put D 21 40 (D 19 0) 0) 23 40 ((rw_put D 21 40 (D 19 0) 0) 19 0) a1) 25 40 ((rw_put (rw_put D 21 40 (D 19 0) 0) 23 40 ((rw_put D 21 40 (D 19 0) 0) 19 0) a1) 19 0) 0) 19 0 (((rw_put (rw_put (rw_put D 21 40 (D 19 0) 0) 23 40 ((rw_put D 21 40 (D 19 0) 0) 19 0) a1) 25 40 ((rw_put (rw_put D 21 40 (D 19 0) 0) 23 40 ((rw_put D 21 40 (D 19 0) 0) 19 0) a1) 19 0) 0) 19 0) + 1)))
set_option maxHeartbeats 2000000 in
theorem ev_99 {a1 : Int32} {D : am_DD} {y : Int32} {Z : am_DD} (h : fn_99 a1 D = some (y, Z)) : ay_mo 99 [.ref 19, .int a1] D (.inl none) Z := by
  unfold fn_99 at h
  refine ay_m_of (L := [some (.ref 19), some (.int a1)]) rfl ?_
  refine ay_t_loc (pc := 0) fe_99_0 rfl ?_
  refine ay_t_getR (pc := 1) (w := .ref 20) fe_99_1 at_19 (by decide +kernel) rfl ?_
  refine ay_t_loc (pc := 4) fe_99_4 rfl ?_
  refine ay_t_getI (pc := 5) fe_99_5 at_19 (by decide +kernel) rfl ?_
  refine ay_t_stk (pc := 8) (S' := [.int 0, .int (D 19 0), .ref 20]) fe_99_8 rfl ?_
  refine ay_t_call (pc := 9) (w := none) fe_99_9 (ay_args [.ref 20, .int (D 19 0), .int 0] [] rfl rfl (Nat.le_of_ble_eq_true rfl) (Nat.le_of_ble_eq_true rfl)) (ay_rcvV at_20 rfl) (mt_put at_20 at_21 (by decide)) ?_
  refine ay_t_loc (pc := 12) fe_99_12 rfl ?_
  refine ay_t_getR (pc := 13) (w := .ref 22) fe_99_13 at_19 (by decide +kernel) rfl ?_
  refine ay_t_loc (pc := 16) fe_99_16 rfl ?_
  refine ay_t_getI (pc := 17) fe_99_17 at_19 (by decide +kernel) rfl ?_
  refine ay_t_loc (pc := 20) fe_99_20 rfl ?_
  refine ay_t_call (pc := 21) (w := none) fe_99_21 (ay_args [.ref 22, .int ((rw_put D 21 40 (D 19 0) 0) 19 0), .int a1] [] rfl rfl (Nat.le_of_ble_eq_true rfl) (Nat.le_of_ble_eq_true rfl)) (ay_rcvV at_22 rfl) (mt_put at_22 at_23 (by decide)) ?_
  refine ay_t_loc (pc := 24) fe_99_24 rfl ?_
  refine ay_t_getR (pc := 25) (w := .ref 24) fe_99_25 at_19 (by decide +kernel) rfl ?_
  refine ay_t_loc (pc := 28) fe_99_28 rfl ?_
  refine ay_t_getI (pc := 29) fe_99_29 at_19 (by decide +kernel) rfl ?_
  refine ay_t_stk (pc := 32) (S' := [.int 0, .int ((rw_put (rw_put D 21 40 (D 19 0) 0) 23 40 ((rw_put D 21 40 (D 19 0) 0) 19 0) a1) 19 0), .ref 24]) fe_99_32 rfl ?_
  refine ay_t_call (pc := 33) (w := none) fe_99_33 (ay_args [.ref 24, .int ((rw_put (rw_put D 21 40 (D 19 0) 0) 23 40 ((rw_put D 21 40 (D 19 0) 0) 19 0) a1) 19 0), .int 0] [] rfl rfl (Nat.le_of_ble_eq_true rfl) (Nat.le_of_ble_eq_true rfl)) (ay_rcvV at_24 rfl) (mt_put at_24 at_25 (by decide)) ?_
  refine ay_t_loc (pc := 36) fe_99_36 rfl ?_
  refine ay_t_stk (pc := 37) (S' := [.ref 19, .ref 19]) fe_99_37 rfl ?_
  refine ay_t_getI (pc := 38) fe_99_38 at_19 (by decide +kernel) rfl ?_
  refine ay_t_stk (pc := 41) (S' := [.int 1, .int ((rw_put (rw_put (rw_put D 21 40 (D 19 0) 0) 23 40 ((rw_put D 21 40 (D 19 0) 0) 19 0) a1) 25 40 ((rw_put (rw_put D 21 40 (D 19 0) 0) 23 40 ((rw_put D 21 40 (D 19 0) 0) 19 0) a1) 19 0) 0) 19 0), .ref 19]) fe_99_41 rfl ?_
  refine ay_t_stk (pc := 42) (S' := [.int (((rw_put (rw_put (rw_put D 21 40 (D 19 0) 0) 23 40 ((rw_put D 21 40 (D 19 0) 0) 19 0) a1) 25 40 ((rw_put (rw_put D 21 40 (D 19 0) 0) 23 40 ((rw_put D 21 40 (D 19 0) 0) 19 0) a1) 19 0) 0) 19 0) + 1), .ref 19]) fe_99_42 rfl ?_
  refine ay_t_put (pc := 43) fe_99_43 at_19 (by decide +kernel) rfl rfl ?_
  cases h
  exact ay_t_vret fe_99_46 rfl
def fn_100 (D : am_DD) : Option (Int32 × am_DD) := (if (rw_at (D 3) 2 0) ≤ 0 then some (0, D) else (if (rw_at (D 3) 2 0) = 0 then none else (if ¬ ((D 1 0) - (D 1 0) / (rw_at (D 3) 2 0) * (rw_at (D 3) 2 0)) = 0 then some (0, D) else (if (D 1 2) ≤ 0 then some (0, D) else (if (D 1 1) ≤ 0 then some (0, D) else (match fn_34 0 D with | none => none | some (y6, D7) => (if y6 = 0 then some (0, D7) else (match fn_99 ((am_upd (am_upd (am_upd D7 1 1 ((D7 1 1) - 1)) 1 2 (((am_upd D7 1 1 ((D7 1 1) - 1)) 1 2) - 1)) 1 3 (((am_upd (am_upd D7 1 1 ((D7 1 1) - 1)) 1 2 (((am_upd D7 1 1 ((D7 1 1) - 1)) 1 2) - 1)) 1 3) + 1)) 1 0) (am_upd (am_upd (am_upd D7 1 1 ((D7 1 1) - 1)) 1 2 (((am_upd D7 1 1 ((D7 1 1) - 1)) 1 2) - 1)) 1 3 (((am_upd (am_upd D7 1 1 ((D7 1 1) - 1)) 1 2 (((am_upd D7 1 1 ((D7 1 1) - 1)) 1 2) - 1)) 1 3) + 1)) with | none => none | some (y10, D11) => some (0, D11)))))))))
set_option maxHeartbeats 2000000 in
theorem ev_100 {D : am_DD} {y : Int32} {Z : am_DD} (h : fn_100  D = some (y, Z)) : ay_mo 100 [.ref 1] D (.inl none) Z := by
  unfold fn_100 at h
  refine ay_m_of (L := [some (.ref 1), none]) rfl ?_
  refine ay_t_loc (pc := 0) fe_100_0 rfl ?_
  refine ay_t_getR (pc := 1) (w := .ref 2) fe_100_1 at_1 (by decide +kernel) rfl ?_
  refine ay_t_stk (pc := 4) (S' := [.int 0, .ref 2]) fe_100_4 rfl ?_
  refine ay_t_call (pc := 5) (w := some (.int (rw_at (D 3) 2 0))) fe_100_5 (ay_args [.ref 2, .int 0] [] rfl rfl (Nat.le_of_ble_eq_true rfl) (Nat.le_of_ble_eq_true rfl)) (ay_rcvV at_2 rfl) (mt_at at_2 at_3 (by decide)) ?_
  refine ay_t_loc (pc := 8) (L' := [some (.ref 1), some (.int (rw_at (D 3) 2 0))]) fe_100_8 rfl ?_
  refine ay_t_loc (pc := 9) fe_100_9 rfl ?_
  by_cases hc1 : (rw_at (D 3) 2 0) ≤ 0
  · rw [if_pos hc1] at h
    refine ay_t_pos (pc := 10) hc1 fe_100_10 rfl ?_
    cases h
    exact ay_t_vret fe_100_88 rfl
  · rw [if_neg hc1] at h
    refine ay_t_neg (pc := 10) hc1 fe_100_10 rfl ?_
    refine ay_t_loc (pc := 13) fe_100_13 rfl ?_
    refine ay_t_getI (pc := 14) fe_100_14 at_1 (by decide +kernel) rfl ?_
    refine ay_t_loc (pc := 17) fe_100_17 rfl ?_
    by_cases hz2 : (rw_at (D 3) 2 0) = 0
    · rw [if_pos hz2] at h; cases h
    rw [if_neg hz2] at h
    refine ay_t_stk (pc := 18) (S' := [.int ((D 1 0) - (D 1 0) / (rw_at (D 3) 2 0) * (rw_at (D 3) 2 0))]) fe_100_18 (ay_irem hz2) ?_
    by_cases hc3 : ¬ ((D 1 0) - (D 1 0) / (rw_at (D 3) 2 0) * (rw_at (D 3) 2 0)) = 0
    · rw [if_pos hc3] at h
      refine ay_t_pos (pc := 19) hc3 fe_100_19 rfl ?_
      cases h
      exact ay_t_vret fe_100_88 rfl
    · rw [if_neg hc3] at h
      refine ay_t_neg (pc := 19) hc3 fe_100_19 rfl ?_
      refine ay_t_loc (pc := 22) fe_100_22 rfl ?_
      refine ay_t_getI (pc := 23) fe_100_23 at_1 (by decide +kernel) rfl ?_
      by_cases hc4 : (D 1 2) ≤ 0
      · rw [if_pos hc4] at h
        refine ay_t_pos (pc := 26) hc4 fe_100_26 rfl ?_
        cases h
        exact ay_t_vret fe_100_88 rfl
      · rw [if_neg hc4] at h
        refine ay_t_neg (pc := 26) hc4 fe_100_26 rfl ?_
        refine ay_t_loc (pc := 29) fe_100_29 rfl ?_
        refine ay_t_getI (pc := 30) fe_100_30 at_1 (by decide +kernel) rfl ?_
        by_cases hc5 : (D 1 1) ≤ 0
        · rw [if_pos hc5] at h
          refine ay_t_pos (pc := 33) hc5 fe_100_33 rfl ?_
          cases h
          exact ay_t_vret fe_100_88 rfl
        · rw [if_neg hc5] at h
          refine ay_t_neg (pc := 33) hc5 fe_100_33 rfl ?_
          refine ay_t_loc (pc := 36) fe_100_36 rfl ?_
          refine ay_t_getR (pc := 37) (w := .ref 8) fe_100_37 at_1 (by decide +kernel) rfl ?_
          refine ay_t_stk (pc := 40) (S' := [.int 0, .ref 8]) fe_100_40 rfl ?_
          cases hk8 : fn_34 0 D with
          | none => rw [hk8] at h; cases h
          | some z =>
            obtain ⟨y6, D7⟩ := z
            rw [hk8] at h
            dsimp only at h
            refine ay_t_call (pc := 41) (w := some (.int y6)) fe_100_41 (ay_args [.ref 8, .int 0] [] rfl rfl (Nat.le_of_ble_eq_true rfl) (Nat.le_of_ble_eq_true rfl)) (ay_rcvV at_8 rfl) (ev_34 hk8) ?_
            by_cases hc9 : y6 = 0
            · rw [if_pos hc9] at h
              refine ay_t_pos (pc := 44) hc9 fe_100_44 rfl ?_
              cases h
              exact ay_t_vret fe_100_88 rfl
            · rw [if_neg hc9] at h
              refine ay_t_neg (pc := 44) hc9 fe_100_44 rfl ?_
              refine ay_t_loc (pc := 47) fe_100_47 rfl ?_
              refine ay_t_stk (pc := 48) (S' := [.ref 1, .ref 1]) fe_100_48 rfl ?_
              refine ay_t_getI (pc := 49) fe_100_49 at_1 (by decide +kernel) rfl ?_
              refine ay_t_stk (pc := 52) (S' := [.int 1, .int (D7 1 1), .ref 1]) fe_100_52 rfl ?_
              refine ay_t_stk (pc := 53) (S' := [.int ((D7 1 1) - 1), .ref 1]) fe_100_53 rfl ?_
              refine ay_t_put (pc := 54) fe_100_54 at_1 (by decide +kernel) rfl rfl ?_
              refine ay_t_loc (pc := 57) fe_100_57 rfl ?_
              refine ay_t_stk (pc := 58) (S' := [.ref 1, .ref 1]) fe_100_58 rfl ?_
              refine ay_t_getI (pc := 59) fe_100_59 at_1 (by decide +kernel) rfl ?_
              refine ay_t_stk (pc := 62) (S' := [.int 1, .int ((am_upd D7 1 1 ((D7 1 1) - 1)) 1 2), .ref 1]) fe_100_62 rfl ?_
              refine ay_t_stk (pc := 63) (S' := [.int (((am_upd D7 1 1 ((D7 1 1) - 1)) 1 2) - 1), .ref 1]) fe_100_63 rfl ?_
              refine ay_t_put (pc := 64) fe_100_64 at_1 (by decide +kernel) rfl rfl ?_
              refine ay_t_loc (pc := 67) fe_100_67 rfl ?_
              refine ay_t_stk (pc := 68) (S' := [.ref 1, .ref 1]) fe_100_68 rfl ?_
              refine ay_t_getI (pc := 69) fe_100_69 at_1 (by decide +kernel) rfl ?_
              refine ay_t_stk (pc := 72) (S' := [.int 1, .int ((am_upd (am_upd D7 1 1 ((D7 1 1) - 1)) 1 2 (((am_upd D7 1 1 ((D7 1 1) - 1)) 1 2) - 1)) 1 3), .ref 1]) fe_100_72 rfl ?_
              refine ay_t_stk (pc := 73) (S' := [.int (((am_upd (am_upd D7 1 1 ((D7 1 1) - 1)) 1 2 (((am_upd D7 1 1 ((D7 1 1) - 1)) 1 2) - 1)) 1 3) + 1), .ref 1]) fe_100_73 rfl ?_
              refine ay_t_put (pc := 74) fe_100_74 at_1 (by decide +kernel) rfl rfl ?_
              refine ay_t_loc (pc := 77) fe_100_77 rfl ?_
              refine ay_t_getR (pc := 78) (w := .ref 19) fe_100_78 at_1 (by decide +kernel) rfl ?_
              refine ay_t_loc (pc := 81) fe_100_81 rfl ?_
              refine ay_t_getI (pc := 82) fe_100_82 at_1 (by decide +kernel) rfl ?_
              cases hk12 : fn_99 ((am_upd (am_upd (am_upd D7 1 1 ((D7 1 1) - 1)) 1 2 (((am_upd D7 1 1 ((D7 1 1) - 1)) 1 2) - 1)) 1 3 (((am_upd (am_upd D7 1 1 ((D7 1 1) - 1)) 1 2 (((am_upd D7 1 1 ((D7 1 1) - 1)) 1 2) - 1)) 1 3) + 1)) 1 0) (am_upd (am_upd (am_upd D7 1 1 ((D7 1 1) - 1)) 1 2 (((am_upd D7 1 1 ((D7 1 1) - 1)) 1 2) - 1)) 1 3 (((am_upd (am_upd D7 1 1 ((D7 1 1) - 1)) 1 2 (((am_upd D7 1 1 ((D7 1 1) - 1)) 1 2) - 1)) 1 3) + 1)) with
              | none => rw [hk12] at h; cases h
              | some z =>
                obtain ⟨y10, D11⟩ := z
                rw [hk12] at h
                dsimp only at h
                refine ay_t_call (pc := 85) (w := none) fe_100_85 (ay_args [.ref 19, .int ((am_upd (am_upd (am_upd D7 1 1 ((D7 1 1) - 1)) 1 2 (((am_upd D7 1 1 ((D7 1 1) - 1)) 1 2) - 1)) 1 3 (((am_upd (am_upd D7 1 1 ((D7 1 1) - 1)) 1 2 (((am_upd D7 1 1 ((D7 1 1) - 1)) 1 2) - 1)) 1 3) + 1)) 1 0)] [] rfl rfl (Nat.le_of_ble_eq_true rfl) (Nat.le_of_ble_eq_true rfl)) (ay_rcvV at_19 rfl) (ev_99 hk12) ?_
                cases h
                exact ay_t_vret fe_100_88 rfl
def fn_101_4 : Nat → Int32 → Int32 → am_DD → Option (Int32 × am_DD)
  | 0, _, _, _ => none
  | n + 1, x1, x2, D => (if 5 ≤ x2 then (if (rw_at (D 5) 5 x1) < (rw_at (D 3) 2 1) then some (0, D) else some (0, (am_upd (am_upd (rw_raise D 5 5 x1 (-1)) 1 1 (((rw_raise D 5 5 x1 (-1)) 1 1) + 1)) 1 4 (((am_upd (rw_raise D 5 5 x1 (-1)) 1 1 (((rw_raise D 5 5 x1 (-1)) 1 1) + 1)) 1 4) + 1)))) else (if (rw_at (D 5) 5 x2) ≤ (rw_at (D 5) 5 x1) then fn_101_4 n x1 (x2 + 1) D else fn_101_4 n x2 (x2 + 1) D))
set_option maxHeartbeats 2000000 in
theorem ev_101_4 : ∀ (n : Nat) (x1 x2 : Int32) (D : am_DD) (y : Int32) (Z : am_DD), fn_101_4 n x1 x2 D = some (y, Z) → ay_to 101 4 [some (.ref 1), some (.int x1), some (.int x2)] [] D (.inl none) Z := by
  intro n
  induction n with
  | zero => intro x1 x2 D y Z h; cases h
  | succ n ih =>
    intro x1 x2 D y Z h
    rw [fn_101_4] at h
    refine ay_t_loc (pc := 4) fe_101_4 rfl ?_
    refine ay_t_stk (pc := 5) (S' := [.int 5, .int x2]) fe_101_5 rfl ?_
    by_cases hc1 : 5 ≤ x2
    · rw [if_pos hc1] at h
      refine ay_t_pos (pc := 6) hc1 fe_101_6 rfl ?_
      refine ay_t_loc (pc := 36) fe_101_36 rfl ?_
      refine ay_t_getR (pc := 37) (w := .ref 4) fe_101_37 at_1 (by decide +kernel) rfl ?_
      refine ay_t_loc (pc := 40) fe_101_40 rfl ?_
      refine ay_t_call (pc := 41) (w := some (.int (rw_at (D 5) 5 x1))) fe_101_41 (ay_args [.ref 4, .int x1] [] rfl rfl (Nat.le_of_ble_eq_true rfl) (Nat.le_of_ble_eq_true rfl)) (ay_rcvV at_4 rfl) (mt_at at_4 at_5 (by decide)) ?_
      refine ay_t_loc (pc := 44) fe_101_44 rfl ?_
      refine ay_t_getR (pc := 45) (w := .ref 2) fe_101_45 at_1 (by decide +kernel) rfl ?_
      refine ay_t_stk (pc := 48) (S' := [.int 1, .ref 2, .int (rw_at (D 5) 5 x1)]) fe_101_48 rfl ?_
      refine ay_t_call (pc := 49) (w := some (.int (rw_at (D 3) 2 1))) fe_101_49 (ay_args [.ref 2, .int 1] [.int (rw_at (D 5) 5 x1)] rfl rfl (Nat.le_of_ble_eq_true rfl) (Nat.le_of_ble_eq_true rfl)) (ay_rcvV at_2 rfl) (mt_at at_2 at_3 (by decide)) ?_
      by_cases hc2 : (rw_at (D 5) 5 x1) < (rw_at (D 3) 2 1)
      · rw [if_pos hc2] at h
        refine ay_t_pos (pc := 52) hc2 fe_101_52 rfl ?_
        cases h
        exact ay_t_vret fe_101_84 rfl
      · rw [if_neg hc2] at h
        refine ay_t_neg (pc := 52) hc2 fe_101_52 rfl ?_
        refine ay_t_loc (pc := 55) fe_101_55 rfl ?_
        refine ay_t_getR (pc := 56) (w := .ref 4) fe_101_56 at_1 (by decide +kernel) rfl ?_
        refine ay_t_loc (pc := 59) fe_101_59 rfl ?_
        refine ay_t_stk (pc := 60) (S' := [.int (-1), .int x1, .ref 4]) fe_101_60 rfl ?_
        refine ay_t_call (pc := 61) (w := none) fe_101_61 (ay_args [.ref 4, .int x1, .int (-1)] [] rfl rfl (Nat.le_of_ble_eq_true rfl) (Nat.le_of_ble_eq_true rfl)) (ay_rcvV at_4 rfl) (mt_raise at_4 at_5 (by decide)) ?_
        refine ay_t_loc (pc := 64) fe_101_64 rfl ?_
        refine ay_t_stk (pc := 65) (S' := [.ref 1, .ref 1]) fe_101_65 rfl ?_
        refine ay_t_getI (pc := 66) fe_101_66 at_1 (by decide +kernel) rfl ?_
        refine ay_t_stk (pc := 69) (S' := [.int 1, .int ((rw_raise D 5 5 x1 (-1)) 1 1), .ref 1]) fe_101_69 rfl ?_
        refine ay_t_stk (pc := 70) (S' := [.int (((rw_raise D 5 5 x1 (-1)) 1 1) + 1), .ref 1]) fe_101_70 rfl ?_
        refine ay_t_put (pc := 71) fe_101_71 at_1 (by decide +kernel) rfl rfl ?_
        refine ay_t_loc (pc := 74) fe_101_74 rfl ?_
        refine ay_t_stk (pc := 75) (S' := [.ref 1, .ref 1]) fe_101_75 rfl ?_
        refine ay_t_getI (pc := 76) fe_101_76 at_1 (by decide +kernel) rfl ?_
        refine ay_t_stk (pc := 79) (S' := [.int 1, .int ((am_upd (rw_raise D 5 5 x1 (-1)) 1 1 (((rw_raise D 5 5 x1 (-1)) 1 1) + 1)) 1 4), .ref 1]) fe_101_79 rfl ?_
        refine ay_t_stk (pc := 80) (S' := [.int (((am_upd (rw_raise D 5 5 x1 (-1)) 1 1 (((rw_raise D 5 5 x1 (-1)) 1 1) + 1)) 1 4) + 1), .ref 1]) fe_101_80 rfl ?_
        refine ay_t_put (pc := 81) fe_101_81 at_1 (by decide +kernel) rfl rfl ?_
        cases h
        exact ay_t_vret fe_101_84 rfl
    · rw [if_neg hc1] at h
      refine ay_t_neg (pc := 6) hc1 fe_101_6 rfl ?_
      refine ay_t_loc (pc := 9) fe_101_9 rfl ?_
      refine ay_t_getR (pc := 10) (w := .ref 4) fe_101_10 at_1 (by decide +kernel) rfl ?_
      refine ay_t_loc (pc := 13) fe_101_13 rfl ?_
      refine ay_t_call (pc := 14) (w := some (.int (rw_at (D 5) 5 x2))) fe_101_14 (ay_args [.ref 4, .int x2] [] rfl rfl (Nat.le_of_ble_eq_true rfl) (Nat.le_of_ble_eq_true rfl)) (ay_rcvV at_4 rfl) (mt_at at_4 at_5 (by decide)) ?_
      refine ay_t_loc (pc := 17) fe_101_17 rfl ?_
      refine ay_t_getR (pc := 18) (w := .ref 4) fe_101_18 at_1 (by decide +kernel) rfl ?_
      refine ay_t_loc (pc := 21) fe_101_21 rfl ?_
      refine ay_t_call (pc := 22) (w := some (.int (rw_at (D 5) 5 x1))) fe_101_22 (ay_args [.ref 4, .int x1] [.int (rw_at (D 5) 5 x2)] rfl rfl (Nat.le_of_ble_eq_true rfl) (Nat.le_of_ble_eq_true rfl)) (ay_rcvV at_4 rfl) (mt_at at_4 at_5 (by decide)) ?_
      by_cases hc3 : (rw_at (D 5) 5 x2) ≤ (rw_at (D 5) 5 x1)
      · rw [if_pos hc3] at h
        refine ay_t_pos (pc := 25) hc3 fe_101_25 rfl ?_
        refine ay_t_loc (pc := 30) (L' := [some (.ref 1), some (.int x1), some (.int (x2 + 1))]) fe_101_30 rfl ?_
        refine ay_t_br (pc := 33) (pc' := 4) fe_101_33 rfl ?_
        exact ay_t_less (ay_ls (ay_ls (ay_ls ay_l0))) (ih _ _ _ _ _ h)
      · rw [if_neg hc3] at h
        refine ay_t_neg (pc := 25) hc3 fe_101_25 rfl ?_
        refine ay_t_loc (pc := 28) fe_101_28 rfl ?_
        refine ay_t_loc (pc := 29) (L' := [some (.ref 1), some (.int x2), some (.int x2)]) fe_101_29 rfl ?_
        refine ay_t_loc (pc := 30) (L' := [some (.ref 1), some (.int x2), some (.int (x2 + 1))]) fe_101_30 rfl ?_
        refine ay_t_br (pc := 33) (pc' := 4) fe_101_33 rfl ?_
        exact ay_t_less (ay_ls (ay_ls (ay_ls ay_l0))) (ih _ _ _ _ _ h)
def fn_101 (D : am_DD) : Option (Int32 × am_DD) := fn_101_4 am_F 0 1 D
set_option maxHeartbeats 2000000 in
theorem ev_101 {D : am_DD} {y : Int32} {Z : am_DD} (h : fn_101  D = some (y, Z)) : ay_mo 101 [.ref 1] D (.inl none) Z := by
  unfold fn_101 at h
  refine ay_m_of (L := [some (.ref 1), none, none]) rfl ?_
  refine ay_t_stk (pc := 0) (S' := [.int 0]) fe_101_0 rfl ?_
  refine ay_t_loc (pc := 1) (L' := [some (.ref 1), some (.int 0), none]) fe_101_1 rfl ?_
  refine ay_t_stk (pc := 2) (S' := [.int 1]) fe_101_2 rfl ?_
  refine ay_t_loc (pc := 3) (L' := [some (.ref 1), some (.int 0), some (.int 1)]) fe_101_3 rfl ?_
  exact ay_t_less (ay_ls (ay_ls (ay_ls ay_l0))) (ev_101_4 _ _ _ _ _ _ h)
def fn_102_10 : Nat → Int32 → Int32 → Int32 → am_DD → Option (Int32 × am_DD)
  | 0, _, _, _, _ => none
  | n + 1, x1, x2, x3, D => (if x1 ≤ x3 then some (((D 26 2) - x2), D) else (match fn_98 (am_upd D 1 0 ((D 1 0) + 1)) with | none => none | some (y2, D3) => (match fn_100 D3 with | none => none | some (y5, D6) => (match fn_101 D6 with | none => none | some (y8, D9) => fn_102_10 n x1 x2 (x3 + 1) D9))))
set_option maxHeartbeats 2000000 in
theorem ev_102_10 : ∀ (n : Nat) (x1 x2 x3 : Int32) (D : am_DD) (y : Int32) (Z : am_DD), fn_102_10 n x1 x2 x3 D = some (y, Z) → ay_to 102 10 [some (.ref 1), some (.int x1), some (.int x2), some (.int x3)] [] D (.inl (some (.int y))) Z := by
  intro n
  induction n with
  | zero => intro x1 x2 x3 D y Z h; cases h
  | succ n ih =>
    intro x1 x2 x3 D y Z h
    rw [fn_102_10] at h
    refine ay_t_loc (pc := 10) fe_102_10 rfl ?_
    refine ay_t_loc (pc := 11) fe_102_11 rfl ?_
    by_cases hc1 : x1 ≤ x3
    · rw [if_pos hc1] at h
      refine ay_t_pos (pc := 12) hc1 fe_102_12 rfl ?_
      refine ay_t_loc (pc := 43) fe_102_43 rfl ?_
      refine ay_t_getR (pc := 44) (w := .ref 26) fe_102_44 at_1 (by decide +kernel) rfl ?_
      refine ay_t_getI (pc := 47) fe_102_47 at_26 (by decide +kernel) rfl ?_
      refine ay_t_loc (pc := 50) fe_102_50 rfl ?_
      refine ay_t_stk (pc := 51) (S' := [.int ((D 26 2) - x2)]) fe_102_51 rfl ?_
      cases h
      exact ay_t_iret fe_102_52 rfl rfl
    · rw [if_neg hc1] at h
      refine ay_t_neg (pc := 12) hc1 fe_102_12 rfl ?_
      refine ay_t_loc (pc := 15) fe_102_15 rfl ?_
      refine ay_t_stk (pc := 16) (S' := [.ref 1, .ref 1]) fe_102_16 rfl ?_
      refine ay_t_getI (pc := 17) fe_102_17 at_1 (by decide +kernel) rfl ?_
      refine ay_t_stk (pc := 20) (S' := [.int 1, .int (D 1 0), .ref 1]) fe_102_20 rfl ?_
      refine ay_t_stk (pc := 21) (S' := [.int ((D 1 0) + 1), .ref 1]) fe_102_21 rfl ?_
      refine ay_t_put (pc := 22) fe_102_22 at_1 (by decide +kernel) rfl rfl ?_
      refine ay_t_loc (pc := 25) fe_102_25 rfl ?_
      cases hk4 : fn_98 (am_upd D 1 0 ((D 1 0) + 1)) with
      | none => rw [hk4] at h; cases h
      | some z =>
        obtain ⟨y2, D3⟩ := z
        rw [hk4] at h
        dsimp only at h
        refine ay_t_call (pc := 26) (w := none) fe_102_26 (ay_args [.ref 1] [] rfl rfl (Nat.le_of_ble_eq_true rfl) (Nat.le_of_ble_eq_true rfl)) (ay_rcvV at_1 rfl) (ev_98 hk4) ?_
        refine ay_t_loc (pc := 29) fe_102_29 rfl ?_
        cases hk7 : fn_100 D3 with
        | none => rw [hk7] at h; cases h
        | some z =>
          obtain ⟨y5, D6⟩ := z
          rw [hk7] at h
          dsimp only at h
          refine ay_t_call (pc := 30) (w := none) fe_102_30 (ay_args [.ref 1] [] rfl rfl (Nat.le_of_ble_eq_true rfl) (Nat.le_of_ble_eq_true rfl)) (ay_rcvV at_1 rfl) (ev_100 hk7) ?_
          refine ay_t_loc (pc := 33) fe_102_33 rfl ?_
          cases hk10 : fn_101 D6 with
          | none => rw [hk10] at h; cases h
          | some z =>
            obtain ⟨y8, D9⟩ := z
            rw [hk10] at h
            dsimp only at h
            refine ay_t_call (pc := 34) (w := none) fe_102_34 (ay_args [.ref 1] [] rfl rfl (Nat.le_of_ble_eq_true rfl) (Nat.le_of_ble_eq_true rfl)) (ay_rcvV at_1 rfl) (ev_101 hk10) ?_
            refine ay_t_loc (pc := 37) (L' := [some (.ref 1), some (.int x1), some (.int x2), some (.int (x3 + 1))]) fe_102_37 rfl ?_
            refine ay_t_br (pc := 40) (pc' := 10) fe_102_40 rfl ?_
            exact ay_t_less (ay_ls (ay_ls (ay_ls (ay_ls ay_l0)))) (ih _ _ _ _ _ _ h)
def fn_102 (a1 : Int32) (D : am_DD) : Option (Int32 × am_DD) := fn_102_10 am_F a1 (D 26 2) 0 D
set_option maxHeartbeats 2000000 in
theorem ev_102 {a1 : Int32} {D : am_DD} {y : Int32} {Z : am_DD} (h : fn_102 a1 D = some (y, Z)) : ay_mo 102 [.ref 1, .int a1] D (.inl (some (.int y))) Z := by
  unfold fn_102 at h
  refine ay_m_of (L := [some (.ref 1), some (.int a1), none, none]) rfl ?_
  refine ay_t_loc (pc := 0) fe_102_0 rfl ?_
  refine ay_t_getR (pc := 1) (w := .ref 26) fe_102_1 at_1 (by decide +kernel) rfl ?_
  refine ay_t_getI (pc := 4) fe_102_4 at_26 (by decide +kernel) rfl ?_
  refine ay_t_loc (pc := 7) (L' := [some (.ref 1), some (.int a1), some (.int (D 26 2)), none]) fe_102_7 rfl ?_
  refine ay_t_stk (pc := 8) (S' := [.int 0]) fe_102_8 rfl ?_
  refine ay_t_loc (pc := 9) (L' := [some (.ref 1), some (.int a1), some (.int (D 26 2)), some (.int 0)]) fe_102_9 rfl ?_
  exact ay_t_less (ay_ls (ay_ls (ay_ls (ay_ls ay_l0)))) (ev_102_10 _ _ _ _ _ _ _ h)
def fn_103 (a1 : Int32) (D : am_DD) : Option (Int32 × Nat × am_DD) := (if a1 < 1 then some (0, 1, D) else (if a1 ≤ 50 then (match fn_79 D with | none => none | some (y3, D4) => (match fn_102 a1 D4 with | none => none | some (y6, D7) => some (y6, 0, D7))) else some (0, 1, D)))
set_option maxHeartbeats 2000000 in
theorem ev_103 {a1 : Int32} {D : am_DD} {y : Int32} {k : Nat} {Z : am_DD} (h : fn_103 a1 D = some (y, k, Z)) : ay_mo 103 [.ref 0, .int a1] D (ay_oc y k) Z := by
  unfold fn_103 at h
  refine ay_m_of (L := [some (.ref 0), some (.int a1)]) rfl ?_
  refine ay_t_loc (pc := 0) fe_103_0 rfl ?_
  refine ay_t_stk (pc := 1) (S' := [.int 1, .int a1]) fe_103_1 rfl ?_
  by_cases hc1 : a1 < 1
  · rw [if_pos hc1] at h
    refine ay_t_pos (pc := 2) hc1 fe_103_2 rfl ?_
    cases h
    exact ay_t_thr fe_103_11 (by decide)
  · rw [if_neg hc1] at h
    refine ay_t_neg (pc := 2) hc1 fe_103_2 rfl ?_
    refine ay_t_loc (pc := 5) fe_103_5 rfl ?_
    refine ay_t_stk (pc := 6) (S' := [.int 50, .int a1]) fe_103_6 rfl ?_
    by_cases hc2 : a1 ≤ 50
    · rw [if_pos hc2] at h
      refine ay_t_pos (pc := 8) hc2 fe_103_8 rfl ?_
      refine ay_t_loc (pc := 21) fe_103_21 rfl ?_
      refine ay_t_getR (pc := 22) (w := .ref 56) fe_103_22 at_0 (by decide +kernel) rfl ?_
      refine ay_t_loc (pc := 25) fe_103_25 rfl ?_
      refine ay_t_getR (pc := 26) (w := .ref 1) fe_103_26 at_0 (by decide +kernel) rfl ?_
      cases hk5 : fn_79 D with
      | none => rw [hk5] at h; cases h
      | some z =>
        obtain ⟨y3, D4⟩ := z
        rw [hk5] at h
        dsimp only at h
        refine ay_t_call (pc := 29) (w := none) fe_103_29 (ay_args [.ref 56, .ref 1] [] rfl rfl (Nat.le_of_ble_eq_true rfl) (Nat.le_of_ble_eq_true rfl)) (ay_rcvV at_56 rfl) (ev_79 hk5) ?_
        refine ay_t_loc (pc := 32) fe_103_32 rfl ?_
        refine ay_t_getR (pc := 33) (w := .ref 1) fe_103_33 at_0 (by decide +kernel) rfl ?_
        refine ay_t_loc (pc := 36) fe_103_36 rfl ?_
        cases hk8 : fn_102 a1 D4 with
        | none => rw [hk8] at h; cases h
        | some z =>
          obtain ⟨y6, D7⟩ := z
          rw [hk8] at h
          dsimp only at h
          refine ay_t_call (pc := 37) (w := some (.int y6)) fe_103_37 (ay_args [.ref 1, .int a1] [] rfl rfl (Nat.le_of_ble_eq_true rfl) (Nat.le_of_ble_eq_true rfl)) (ay_rcvV at_1 rfl) (ev_102 hk8) ?_
          cases h
          exact ay_t_iret fe_103_40 rfl rfl
    · rw [if_neg hc2] at h
      refine ay_t_neg (pc := 8) hc2 fe_103_8 rfl ?_
      cases h
      exact ay_t_thr fe_103_11 (by decide)
