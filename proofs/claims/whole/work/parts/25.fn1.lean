/-! methods as functions, with what am_run does (written by wip/whole/gen6.py) -/
def fn_13 (a1 : Int32) (D : am_DD) : Option (Int32 × am_DD) := (if a1 < 0 then some (0, D) else (if 31 ≤ a1 then some (0, D) else some (1, D)))
set_option maxHeartbeats 2000000 in
theorem ev_13 {a1 : Int32} {D : am_DD} {y : Int32} {Z : am_DD} (h : fn_13 a1 D = some (y, Z)) : ay_mo 13 [.int a1] D (.inl (some (.int y))) Z := by
  unfold fn_13 at h
  refine ay_m_of (L := [some (.int a1)]) rfl ?_
  refine ay_t_loc (pc := 0) fe_13_0 rfl ?_
  by_cases hc1 : a1 < 0
  · rw [if_pos hc1] at h
    refine ay_t_pos (pc := 1) hc1 fe_13_1 rfl ?_
    refine ay_t_stk (pc := 14) (S' := [.int 0]) fe_13_14 rfl ?_
    cases h
    exact ay_t_iret fe_13_15 rfl rfl
  · rw [if_neg hc1] at h
    refine ay_t_neg (pc := 1) hc1 fe_13_1 rfl ?_
    refine ay_t_loc (pc := 4) fe_13_4 rfl ?_
    refine ay_t_stk (pc := 5) (S' := [.int 31, .int a1]) fe_13_5 rfl ?_
    by_cases hc2 : 31 ≤ a1
    · rw [if_pos hc2] at h
      refine ay_t_pos (pc := 7) hc2 fe_13_7 rfl ?_
      refine ay_t_stk (pc := 14) (S' := [.int 0]) fe_13_14 rfl ?_
      cases h
      exact ay_t_iret fe_13_15 rfl rfl
    · rw [if_neg hc2] at h
      refine ay_t_neg (pc := 7) hc2 fe_13_7 rfl ?_
      refine ay_t_stk (pc := 10) (S' := [.int 1]) fe_13_10 rfl ?_
      refine ay_t_br (pc := 11) (pc' := 15) fe_13_11 rfl ?_
      cases h
      exact ay_t_iret fe_13_15 rfl rfl
def fn_14 (D : am_DD) : Option (Int32 × am_DD) := (if 12 ≤ (D 8 0) then some (0, D) else some (1, D))
set_option maxHeartbeats 2000000 in
theorem ev_14 {D : am_DD} {y : Int32} {Z : am_DD} (h : fn_14  D = some (y, Z)) : ay_mo 14 [.ref 8] D (.inl (some (.int y))) Z := by
  unfold fn_14 at h
  refine ay_m_of (L := [some (.ref 8)]) rfl ?_
  refine ay_t_loc (pc := 0) fe_14_0 rfl ?_
  refine ay_t_getI (pc := 1) fe_14_1 at_8 (by decide +kernel) rfl ?_
  refine ay_t_stk (pc := 4) (S' := [.int 12, .int (D 8 0)]) fe_14_4 rfl ?_
  by_cases hc1 : 12 ≤ (D 8 0)
  · rw [if_pos hc1] at h
    refine ay_t_pos (pc := 6) hc1 fe_14_6 rfl ?_
    refine ay_t_stk (pc := 13) (S' := [.int 0]) fe_14_13 rfl ?_
    cases h
    exact ay_t_iret fe_14_14 rfl rfl
  · rw [if_neg hc1] at h
    refine ay_t_neg (pc := 6) hc1 fe_14_6 rfl ?_
    refine ay_t_stk (pc := 9) (S' := [.int 1]) fe_14_9 rfl ?_
    refine ay_t_br (pc := 10) (pc' := 14) fe_14_10 rfl ?_
    cases h
    exact ay_t_iret fe_14_14 rfl rfl
def fn_15 (a1 : Int32) (D : am_DD) : Option (Int32 × am_DD) := some ((((D 56 1) + a1) - ((D 56 1) + a1) / 6 * 6), D)
set_option maxHeartbeats 2000000 in
theorem ev_15 {a1 : Int32} {D : am_DD} {y : Int32} {Z : am_DD} (h : fn_15 a1 D = some (y, Z)) : ay_mo 15 [.ref 56, .int a1] D (.inl (some (.int y))) Z := by
  unfold fn_15 at h
  refine ay_m_of (L := [some (.ref 56), some (.int a1)]) rfl ?_
  refine ay_t_loc (pc := 0) fe_15_0 rfl ?_
  refine ay_t_getI (pc := 1) fe_15_1 at_56 (by decide +kernel) rfl ?_
  refine ay_t_loc (pc := 4) fe_15_4 rfl ?_
  refine ay_t_stk (pc := 5) (S' := [.int ((D 56 1) + a1)]) fe_15_5 rfl ?_
  refine ay_t_stk (pc := 6) (S' := [.int 6, .int ((D 56 1) + a1)]) fe_15_6 rfl ?_
  refine ay_t_stk (pc := 8) (S' := [.int (((D 56 1) + a1) - ((D 56 1) + a1) / 6 * 6)]) fe_15_8 (ay_irem (by decide)) ?_
  cases h
  exact ay_t_iret fe_15_9 rfl rfl
def fn_22 (D : am_DD) : Option (Int32 × am_DD) := (match fn_15 (D 56 2) D with | none => none | some (y1, D2) => (match sh_store_57 y1 D2 with | none => none | some D4 => (if 6 ≤ (D4 56 2) then (match fn_15 1 D4 with | none => none | some (y7, D8) => some (0, (am_upd D8 56 1 y7))) else some (0, (am_upd D4 56 2 ((D4 56 2) + 1))))))
set_option maxHeartbeats 2000000 in
theorem ev_22 {D : am_DD} {y : Int32} {Z : am_DD} (h : fn_22  D = some (y, Z)) : ay_mo 22 [.ref 56, .ref 1] D (.inl none) Z := by
  unfold fn_22 at h
  refine ay_m_of (L := [some (.ref 56), some (.ref 1)]) rfl ?_
  refine ay_t_loc (pc := 0) fe_22_0 rfl ?_
  refine ay_t_getR (pc := 1) (w := .ref 57) fe_22_1 at_56 (by decide +kernel) rfl ?_
  refine ay_t_loc (pc := 4) fe_22_4 rfl ?_
  refine ay_t_loc (pc := 5) fe_22_5 rfl ?_
  refine ay_t_getI (pc := 6) fe_22_6 at_56 (by decide +kernel) rfl ?_
  cases hk3 : fn_15 (D 56 2) D with
  | none => rw [hk3] at h; cases h
  | some z =>
    obtain ⟨y1, D2⟩ := z
    rw [hk3] at h
    dsimp only at h
    refine ay_t_call (pc := 9) (w := some (.int y1)) fe_22_9 (ay_args [.ref 56, .int (D 56 2)] [.ref 57] rfl rfl (Nat.le_of_ble_eq_true rfl) (Nat.le_of_ble_eq_true rfl)) (ay_rcvV at_56 rfl) (ev_15 hk3) ?_
    refine ay_t_loc (pc := 12) fe_22_12 rfl ?_
    cases hk5 : sh_store_57 y1 D2 with
    | none => rw [hk5] at h; cases h
    | some D4 =>
      rw [hk5] at h
      dsimp only at h
      refine ay_t_call (pc := 13) (w := none) fe_22_13 (ay_args [.ref 57, .int y1, .ref 1] [] rfl rfl (Nat.le_of_ble_eq_true rfl) (Nat.le_of_ble_eq_true rfl)) (ay_rcvV at_57 rfl) (mt_sh_store_57 hk5) ?_
      refine ay_t_loc (pc := 16) fe_22_16 rfl ?_
      refine ay_t_getI (pc := 17) fe_22_17 at_56 (by decide +kernel) rfl ?_
      refine ay_t_stk (pc := 20) (S' := [.int 6, .int (D4 56 2)]) fe_22_20 rfl ?_
      by_cases hc6 : 6 ≤ (D4 56 2)
      · rw [if_pos hc6] at h
        refine ay_t_pos (pc := 22) hc6 fe_22_22 rfl ?_
        refine ay_t_loc (pc := 38) fe_22_38 rfl ?_
        refine ay_t_loc (pc := 39) fe_22_39 rfl ?_
        refine ay_t_stk (pc := 40) (S' := [.int 1, .ref 56, .ref 56]) fe_22_40 rfl ?_
        cases hk9 : fn_15 1 D4 with
        | none => rw [hk9] at h; cases h
        | some z =>
          obtain ⟨y7, D8⟩ := z
          rw [hk9] at h
          dsimp only at h
          refine ay_t_call (pc := 41) (w := some (.int y7)) fe_22_41 (ay_args [.ref 56, .int 1] [.ref 56] rfl rfl (Nat.le_of_ble_eq_true rfl) (Nat.le_of_ble_eq_true rfl)) (ay_rcvV at_56 rfl) (ev_15 hk9) ?_
          refine ay_t_put (pc := 44) fe_22_44 at_56 (by decide +kernel) rfl rfl ?_
          cases h
          exact ay_t_vret fe_22_47 rfl
      · rw [if_neg hc6] at h
        refine ay_t_neg (pc := 22) hc6 fe_22_22 rfl ?_
        refine ay_t_loc (pc := 25) fe_22_25 rfl ?_
        refine ay_t_stk (pc := 26) (S' := [.ref 56, .ref 56]) fe_22_26 rfl ?_
        refine ay_t_getI (pc := 27) fe_22_27 at_56 (by decide +kernel) rfl ?_
        refine ay_t_stk (pc := 30) (S' := [.int 1, .int (D4 56 2), .ref 56]) fe_22_30 rfl ?_
        refine ay_t_stk (pc := 31) (S' := [.int ((D4 56 2) + 1), .ref 56]) fe_22_31 rfl ?_
        refine ay_t_put (pc := 32) fe_22_32 at_56 (by decide +kernel) rfl rfl ?_
        refine ay_t_br (pc := 35) (pc' := 47) fe_22_35 rfl ?_
        cases h
        exact ay_t_vret fe_22_47 rfl
def fn_23 (a1 : Int32) (D : am_DD) : Option (Int32 × am_DD) := some ((D 8 0), (rw_put (rw_put (rw_put (am_upd D 8 0 ((D 8 0) + 1)) 12 12 (D 8 0) a1) 16 24 (2 * (D 8 0)) 20) 16 24 ((2 * (D 8 0)) + 1) 20))
set_option maxHeartbeats 2000000 in
theorem ev_23 {a1 : Int32} {D : am_DD} {y : Int32} {Z : am_DD} (h : fn_23 a1 D = some (y, Z)) : ay_mo 23 [.ref 8, .int a1] D (.inl (some (.int y))) Z := by
  unfold fn_23 at h
  refine ay_m_of (L := [some (.ref 8), some (.int a1), none]) rfl ?_
  refine ay_t_loc (pc := 0) fe_23_0 rfl ?_
  refine ay_t_getI (pc := 1) fe_23_1 at_8 (by decide +kernel) rfl ?_
  refine ay_t_loc (pc := 4) (L' := [some (.ref 8), some (.int a1), some (.int (D 8 0))]) fe_23_4 rfl ?_
  refine ay_t_loc (pc := 5) fe_23_5 rfl ?_
  refine ay_t_stk (pc := 6) (S' := [.ref 8, .ref 8]) fe_23_6 rfl ?_
  refine ay_t_getI (pc := 7) fe_23_7 at_8 (by decide +kernel) rfl ?_
  refine ay_t_stk (pc := 10) (S' := [.int 1, .int (D 8 0), .ref 8]) fe_23_10 rfl ?_
  refine ay_t_stk (pc := 11) (S' := [.int ((D 8 0) + 1), .ref 8]) fe_23_11 rfl ?_
  refine ay_t_put (pc := 12) fe_23_12 at_8 (by decide +kernel) rfl rfl ?_
  refine ay_t_loc (pc := 15) fe_23_15 rfl ?_
  refine ay_t_getR (pc := 16) (w := .ref 11) fe_23_16 at_8 (by decide +kernel) rfl ?_
  refine ay_t_loc (pc := 19) fe_23_19 rfl ?_
  refine ay_t_loc (pc := 20) fe_23_20 rfl ?_
  refine ay_t_call (pc := 21) (w := none) fe_23_21 (ay_args [.ref 11, .int (D 8 0), .int a1] [] rfl rfl (Nat.le_of_ble_eq_true rfl) (Nat.le_of_ble_eq_true rfl)) (ay_rcvV at_11 rfl) (mt_put at_11 at_12 (by decide)) ?_
  refine ay_t_loc (pc := 24) fe_23_24 rfl ?_
  refine ay_t_getR (pc := 25) (w := .ref 15) fe_23_25 at_8 (by decide +kernel) rfl ?_
  refine ay_t_stk (pc := 28) (S' := [.int 2, .ref 15]) fe_23_28 rfl ?_
  refine ay_t_loc (pc := 29) fe_23_29 rfl ?_
  refine ay_t_stk (pc := 30) (S' := [.int (2 * (D 8 0)), .ref 15]) fe_23_30 rfl ?_
  refine ay_t_stk (pc := 31) (S' := [.int 20, .int (2 * (D 8 0)), .ref 15]) fe_23_31 rfl ?_
  refine ay_t_call (pc := 33) (w := none) fe_23_33 (ay_args [.ref 15, .int (2 * (D 8 0)), .int 20] [] rfl rfl (Nat.le_of_ble_eq_true rfl) (Nat.le_of_ble_eq_true rfl)) (ay_rcvV at_15 rfl) (mt_put at_15 at_16 (by decide)) ?_
  refine ay_t_loc (pc := 36) fe_23_36 rfl ?_
  refine ay_t_getR (pc := 37) (w := .ref 15) fe_23_37 at_8 (by decide +kernel) rfl ?_
  refine ay_t_stk (pc := 40) (S' := [.int 2, .ref 15]) fe_23_40 rfl ?_
  refine ay_t_loc (pc := 41) fe_23_41 rfl ?_
  refine ay_t_stk (pc := 42) (S' := [.int (2 * (D 8 0)), .ref 15]) fe_23_42 rfl ?_
  refine ay_t_stk (pc := 43) (S' := [.int 1, .int (2 * (D 8 0)), .ref 15]) fe_23_43 rfl ?_
  refine ay_t_stk (pc := 44) (S' := [.int ((2 * (D 8 0)) + 1), .ref 15]) fe_23_44 rfl ?_
  refine ay_t_stk (pc := 45) (S' := [.int 20, .int ((2 * (D 8 0)) + 1), .ref 15]) fe_23_45 rfl ?_
  refine ay_t_call (pc := 47) (w := none) fe_23_47 (ay_args [.ref 15, .int ((2 * (D 8 0)) + 1), .int 20] [] rfl rfl (Nat.le_of_ble_eq_true rfl) (Nat.le_of_ble_eq_true rfl)) (ay_rcvV at_15 rfl) (mt_put at_15 at_16 (by decide)) ?_
  refine ay_t_loc (pc := 50) fe_23_50 rfl ?_
  cases h
  exact ay_t_iret fe_23_51 rfl rfl
def fn_24 (a1 : Int32) (D : am_DD) : Option (Int32 × Nat × am_DD) := (match fn_13 a1 D with | none => none | some (y1, D2) => (if ¬ y1 = 0 then (match fn_14 D2 with | none => none | some (y5, D6) => (if ¬ y5 = 0 then (match fn_22 D6 with | none => none | some (y9, D10) => (match fn_23 a1 D10 with | none => none | some (y12, D13) => some (y12, 0, D13))) else some (0, 2, D6))) else some (0, 1, D2)))
set_option maxHeartbeats 2000000 in
theorem ev_24 {a1 : Int32} {D : am_DD} {y : Int32} {k : Nat} {Z : am_DD} (h : fn_24 a1 D = some (y, k, Z)) : ay_mo 24 [.ref 0, .int a1] D (ay_oc y k) Z := by
  unfold fn_24 at h
  refine ay_m_of (L := [some (.ref 0), some (.int a1)]) rfl ?_
  refine ay_t_loc (pc := 0) fe_24_0 rfl ?_
  cases hk3 : fn_13 a1 D with
  | none => rw [hk3] at h; cases h
  | some z =>
    obtain ⟨y1, D2⟩ := z
    rw [hk3] at h
    dsimp only at h
    refine ay_t_call (pc := 1) (w := some (.int y1)) fe_24_1 (ay_args [.int a1] [] rfl rfl (Nat.le_of_ble_eq_true rfl) (Nat.le_of_ble_eq_true rfl)) rfl (ev_13 hk3) ?_
    by_cases hc4 : ¬ y1 = 0
    · rw [if_pos hc4] at h
      refine ay_t_pos (pc := 4) hc4 fe_24_4 rfl ?_
      refine ay_t_loc (pc := 17) fe_24_17 rfl ?_
      refine ay_t_getR (pc := 18) (w := .ref 1) fe_24_18 at_0 (by decide +kernel) rfl ?_
      refine ay_t_getR (pc := 21) (w := .ref 8) fe_24_21 at_1 (by decide +kernel) rfl ?_
      cases hk7 : fn_14 D2 with
      | none => rw [hk7] at h; cases h
      | some z =>
        obtain ⟨y5, D6⟩ := z
        rw [hk7] at h
        dsimp only at h
        refine ay_t_call (pc := 24) (w := some (.int y5)) fe_24_24 (ay_args [.ref 8] [] rfl rfl (Nat.le_of_ble_eq_true rfl) (Nat.le_of_ble_eq_true rfl)) (ay_rcvV at_8 rfl) (ev_14 hk7) ?_
        by_cases hc8 : ¬ y5 = 0
        · rw [if_pos hc8] at h
          refine ay_t_pos (pc := 27) hc8 fe_24_27 rfl ?_
          refine ay_t_loc (pc := 40) fe_24_40 rfl ?_
          refine ay_t_getR (pc := 41) (w := .ref 56) fe_24_41 at_0 (by decide +kernel) rfl ?_
          refine ay_t_loc (pc := 44) fe_24_44 rfl ?_
          refine ay_t_getR (pc := 45) (w := .ref 1) fe_24_45 at_0 (by decide +kernel) rfl ?_
          cases hk11 : fn_22 D6 with
          | none => rw [hk11] at h; cases h
          | some z =>
            obtain ⟨y9, D10⟩ := z
            rw [hk11] at h
            dsimp only at h
            refine ay_t_call (pc := 48) (w := none) fe_24_48 (ay_args [.ref 56, .ref 1] [] rfl rfl (Nat.le_of_ble_eq_true rfl) (Nat.le_of_ble_eq_true rfl)) (ay_rcvV at_56 rfl) (ev_22 hk11) ?_
            refine ay_t_loc (pc := 51) fe_24_51 rfl ?_
            refine ay_t_getR (pc := 52) (w := .ref 1) fe_24_52 at_0 (by decide +kernel) rfl ?_
            refine ay_t_getR (pc := 55) (w := .ref 8) fe_24_55 at_1 (by decide +kernel) rfl ?_
            refine ay_t_loc (pc := 58) fe_24_58 rfl ?_
            cases hk14 : fn_23 a1 D10 with
            | none => rw [hk14] at h; cases h
            | some z =>
              obtain ⟨y12, D13⟩ := z
              rw [hk14] at h
              dsimp only at h
              refine ay_t_call (pc := 59) (w := some (.int y12)) fe_24_59 (ay_args [.ref 8, .int a1] [] rfl rfl (Nat.le_of_ble_eq_true rfl) (Nat.le_of_ble_eq_true rfl)) (ay_rcvV at_8 rfl) (ev_23 hk14) ?_
              cases h
              exact ay_t_iret fe_24_62 rfl rfl
        · rw [if_neg hc8] at h
          refine ay_t_neg (pc := 27) hc8 fe_24_27 rfl ?_
          cases h
          exact ay_t_thr fe_24_30 (by decide)
    · rw [if_neg hc4] at h
      refine ay_t_neg (pc := 4) hc4 fe_24_4 rfl ?_
      cases h
      exact ay_t_thr fe_24_7 (by decide)
def fn_26 (a1 a2 a3 : Int32) (D : am_DD) : Option (Int32 × am_DD) := (if a1 < a2 then some (0, D) else (if a3 < a1 then some (0, D) else some (1, D)))
set_option maxHeartbeats 2000000 in
theorem ev_26 {a1 a2 a3 : Int32} {D : am_DD} {y : Int32} {Z : am_DD} (h : fn_26 a1 a2 a3 D = some (y, Z)) : ay_mo 26 [.int a1, .int a2, .int a3] D (.inl (some (.int y))) Z := by
  unfold fn_26 at h
  refine ay_m_of (L := [some (.int a1), some (.int a2), some (.int a3)]) rfl ?_
  refine ay_t_loc (pc := 0) fe_26_0 rfl ?_
  refine ay_t_loc (pc := 1) fe_26_1 rfl ?_
  by_cases hc1 : a1 < a2
  · rw [if_pos hc1] at h
    refine ay_t_pos (pc := 2) hc1 fe_26_2 rfl ?_
    refine ay_t_stk (pc := 14) (S' := [.int 0]) fe_26_14 rfl ?_
    cases h
    exact ay_t_iret fe_26_15 rfl rfl
  · rw [if_neg hc1] at h
    refine ay_t_neg (pc := 2) hc1 fe_26_2 rfl ?_
    refine ay_t_loc (pc := 5) fe_26_5 rfl ?_
    refine ay_t_loc (pc := 6) fe_26_6 rfl ?_
    by_cases hc2 : a3 < a1
    · rw [if_pos hc2] at h
      refine ay_t_pos (pc := 7) hc2 fe_26_7 rfl ?_
      refine ay_t_stk (pc := 14) (S' := [.int 0]) fe_26_14 rfl ?_
      cases h
      exact ay_t_iret fe_26_15 rfl rfl
    · rw [if_neg hc2] at h
      refine ay_t_neg (pc := 7) hc2 fe_26_7 rfl ?_
      refine ay_t_stk (pc := 10) (S' := [.int 1]) fe_26_10 rfl ?_
      refine ay_t_br (pc := 11) (pc' := 15) fe_26_11 rfl ?_
      cases h
      exact ay_t_iret fe_26_15 rfl rfl
def fn_27 (a1 : Int32) (D : am_DD) : Option (Int32 × am_DD) := (match fn_26 a1 0 30 D with | none => none | some (y1, D2) => (if ay_isb y1 then some (y1, D2) else none))
set_option maxHeartbeats 2000000 in
theorem ev_27 {a1 : Int32} {D : am_DD} {y : Int32} {Z : am_DD} (h : fn_27 a1 D = some (y, Z)) : ay_mo 27 [.int a1] D (.inl (some (.int y))) Z := by
  unfold fn_27 at h
  refine ay_m_of (L := [some (.int a1)]) rfl ?_
  refine ay_t_loc (pc := 0) fe_27_0 rfl ?_
  refine ay_t_stk (pc := 1) (S' := [.int 0, .int a1]) fe_27_1 rfl ?_
  refine ay_t_stk (pc := 2) (S' := [.int 30, .int 0, .int a1]) fe_27_2 rfl ?_
  cases hk3 : fn_26 a1 0 30 D with
  | none => rw [hk3] at h; cases h
  | some z =>
    obtain ⟨y1, D2⟩ := z
    rw [hk3] at h
    dsimp only at h
    refine ay_t_call (pc := 4) (w := some (.int y1)) fe_27_4 (ay_args [.int a1, .int 0, .int 30] [] rfl rfl (Nat.le_of_ble_eq_true rfl) (Nat.le_of_ble_eq_true rfl)) rfl (ev_26 hk3) ?_
    by_cases hn4 : ay_isb y1
    · rw [if_pos hn4] at h
      cases h
      exact ay_t_zret fe_27_7 rfl hn4
    · rw [if_neg hn4] at h; cases h
def fn_28 (a1 : Int32) (D : am_DD) : Option (Int32 × am_DD) := (match fn_27 a1 D with | none => none | some (y1, D2) => (if ¬ y1 = 0 then (if ¬ (D2 322 1) = 12 then some (0, D2) else some (2, D2)) else some (1, D2)))
set_option maxHeartbeats 2000000 in
theorem ev_28 {a1 : Int32} {D : am_DD} {y : Int32} {Z : am_DD} (h : fn_28 a1 D = some (y, Z)) : ay_mo 28 [.ref 321, .int a1] D (.inl (some (.int y))) Z := by
  unfold fn_28 at h
  refine ay_m_of (L := [some (.ref 321), some (.int a1)]) rfl ?_
  refine ay_t_loc (pc := 0) fe_28_0 rfl ?_
  cases hk3 : fn_27 a1 D with
  | none => rw [hk3] at h; cases h
  | some z =>
    obtain ⟨y1, D2⟩ := z
    rw [hk3] at h
    dsimp only at h
    refine ay_t_call (pc := 1) (w := some (.int y1)) fe_28_1 (ay_args [.int a1] [] rfl rfl (Nat.le_of_ble_eq_true rfl) (Nat.le_of_ble_eq_true rfl)) rfl (ev_27 hk3) ?_
    by_cases hc4 : ¬ y1 = 0
    · rw [if_pos hc4] at h
      refine ay_t_pos (pc := 4) hc4 fe_28_4 rfl ?_
      refine ay_t_loc (pc := 11) fe_28_11 rfl ?_
      refine ay_t_getR (pc := 12) (w := .ref 322) fe_28_12 at_321 (by decide +kernel) rfl ?_
      refine ay_t_stk (pc := 15) (S' := [.int 1, .ref 322]) fe_28_15 rfl ?_
      refine ay_t_ialoadk (pc := 16) (k := 1) fe_28_16 at_322 (by decide) (by decide) (by decide) ?_
      refine ay_t_stk (pc := 17) (S' := [.int 12, .int (D2 322 1)]) fe_28_17 rfl ?_
      by_cases hc5 : ¬ (D2 322 1) = 12
      · rw [if_pos hc5] at h
        refine ay_t_pos (pc := 19) hc5 fe_28_19 rfl ?_
        refine ay_t_stk (pc := 26) (S' := [.int 0]) fe_28_26 rfl ?_
        cases h
        exact ay_t_iret fe_28_27 rfl rfl
      · rw [if_neg hc5] at h
        refine ay_t_neg (pc := 19) hc5 fe_28_19 rfl ?_
        refine ay_t_stk (pc := 22) (S' := [.int 2]) fe_28_22 rfl ?_
        refine ay_t_br (pc := 23) (pc' := 27) fe_28_23 rfl ?_
        cases h
        exact ay_t_iret fe_28_27 rfl rfl
    · rw [if_neg hc4] at h
      refine ay_t_neg (pc := 4) hc4 fe_28_4 rfl ?_
      refine ay_t_stk (pc := 7) (S' := [.int 1]) fe_28_7 rfl ?_
      refine ay_t_br (pc := 8) (pc' := 27) fe_28_8 rfl ?_
      cases h
      exact ay_t_iret fe_28_27 rfl rfl
def fn_29 (a1 : Int32) (D : am_DD) : Option (Int32 × am_DD) := (if ¬ a1 = 0 then some (0, (am_upd D 321 7 a1)) else some (1, (am_upd D 321 7 a1)))
set_option maxHeartbeats 2000000 in
theorem ev_29 {a1 : Int32} {D : am_DD} {y : Int32} {Z : am_DD} (h : fn_29 a1 D = some (y, Z)) : ay_mo 29 [.ref 321, .int a1] D (.inl (some (.int y))) Z := by
  unfold fn_29 at h
  refine ay_m_of (L := [some (.ref 321), some (.int a1)]) rfl ?_
  refine ay_t_loc (pc := 0) fe_29_0 rfl ?_
  refine ay_t_loc (pc := 1) fe_29_1 rfl ?_
  refine ay_t_put (pc := 2) fe_29_2 at_321 (by decide +kernel) rfl rfl ?_
  refine ay_t_loc (pc := 5) fe_29_5 rfl ?_
  by_cases hc1 : ¬ a1 = 0
  · rw [if_pos hc1] at h
    refine ay_t_pos (pc := 6) hc1 fe_29_6 rfl ?_
    refine ay_t_stk (pc := 13) (S' := [.int 0]) fe_29_13 rfl ?_
    cases h
    exact ay_t_iret fe_29_14 rfl rfl
  · rw [if_neg hc1] at h
    refine ay_t_neg (pc := 6) hc1 fe_29_6 rfl ?_
    refine ay_t_stk (pc := 9) (S' := [.int 1]) fe_29_9 rfl ?_
    refine ay_t_br (pc := 10) (pc' := 14) fe_29_10 rfl ?_
    cases h
    exact ay_t_iret fe_29_14 rfl rfl
def fn_31_11 : Nat → Int32 → am_DD → Option (Int32 × am_DD)
  | 0, _, _ => none
  | n + 1, x1, D => (if 2025 ≤ x1 then (match fn_30 322 405 323 2430 0 (405 * ((am_upd D 321 2 ((D 321 2) - 1)) 321 2)) (am_upd D 321 2 ((D 321 2) - 1)) with | none => none | some (y6, D7) => some (0, (am_upd D7 321 2 ((D7 321 2) + 1)))) else (if (405 + x1) < 0 ∨ 2430 ≤ (405 + x1).toNatClampNeg then none else (if x1 < 0 ∨ 2430 ≤ x1.toNatClampNeg then none else fn_31_11 n (x1 + 1) (am_upd D 323 x1.toNatClampNeg (D 323 (405 + x1).toNatClampNeg)))))
set_option maxHeartbeats 2000000 in
theorem ev_31_11 : ∀ (n : Nat) (x1 : Int32) (D : am_DD) (y : Int32) (Z : am_DD), fn_31_11 n x1 D = some (y, Z) → ay_to 31 11 [some (.ref 321), some (.int x1)] [] D (.inl none) Z := by
  intro n
  induction n with
  | zero => intro x1 D y Z h; cases h
  | succ n ih =>
    intro x1 D y Z h
    rw [fn_31_11] at h
    refine ay_t_loc (pc := 11) fe_31_11 rfl ?_
    refine ay_t_stk (pc := 12) (S' := [.int 2025, .int x1]) fe_31_12 rfl ?_
    by_cases hc5 : 2025 ≤ x1
    · rw [if_pos hc5] at h
      refine ay_t_pos (pc := 15) hc5 fe_31_15 rfl ?_
      refine ay_t_loc (pc := 40) fe_31_40 rfl ?_
      refine ay_t_stk (pc := 41) (S' := [.ref 321, .ref 321]) fe_31_41 rfl ?_
      refine ay_t_getI (pc := 42) fe_31_42 at_321 (by decide +kernel) rfl ?_
      refine ay_t_stk (pc := 45) (S' := [.int 1, .int (D 321 2), .ref 321]) fe_31_45 rfl ?_
      refine ay_t_stk (pc := 46) (S' := [.int ((D 321 2) - 1), .ref 321]) fe_31_46 rfl ?_
      refine ay_t_put (pc := 47) fe_31_47 at_321 (by decide +kernel) rfl rfl ?_
      refine ay_t_loc (pc := 50) fe_31_50 rfl ?_
      refine ay_t_getR (pc := 51) (w := .ref 322) fe_31_51 at_321 (by decide +kernel) rfl ?_
      refine ay_t_stk (pc := 54) (S' := [.int 0, .ref 322]) fe_31_54 rfl ?_
      refine ay_t_loc (pc := 55) fe_31_55 rfl ?_
      refine ay_t_getR (pc := 56) (w := .ref 323) fe_31_56 at_321 (by decide +kernel) rfl ?_
      refine ay_t_stk (pc := 59) (S' := [.int 405, .ref 323, .int 0, .ref 322]) fe_31_59 rfl ?_
      refine ay_t_loc (pc := 62) fe_31_62 rfl ?_
      refine ay_t_getI (pc := 63) fe_31_63 at_321 (by decide +kernel) rfl ?_
      refine ay_t_stk (pc := 66) (S' := [.int (405 * ((am_upd D 321 2 ((D 321 2) - 1)) 321 2)), .ref 323, .int 0, .ref 322]) fe_31_66 rfl ?_
      cases hk8 : fn_30 322 405 323 2430 0 (405 * ((am_upd D 321 2 ((D 321 2) - 1)) 321 2)) (am_upd D 321 2 ((D 321 2) - 1)) with
      | none => rw [hk8] at h; cases h
      | some z =>
        obtain ⟨y6, D7⟩ := z
        rw [hk8] at h
        dsimp only at h
        refine ay_t_call (pc := 67) (w := none) fe_31_67 (ay_args [.ref 322, .int 0, .ref 323, .int (405 * ((am_upd D 321 2 ((D 321 2) - 1)) 321 2))] [] rfl rfl (Nat.le_of_ble_eq_true rfl) (Nat.le_of_ble_eq_true rfl)) rfl (ev_30 at_322 at_323 (by decide) hk8) ?_
        refine ay_t_loc (pc := 70) fe_31_70 rfl ?_
        refine ay_t_stk (pc := 71) (S' := [.ref 321, .ref 321]) fe_31_71 rfl ?_
        refine ay_t_getI (pc := 72) fe_31_72 at_321 (by decide +kernel) rfl ?_
        refine ay_t_stk (pc := 75) (S' := [.int 1, .int (D7 321 2), .ref 321]) fe_31_75 rfl ?_
        refine ay_t_stk (pc := 76) (S' := [.int ((D7 321 2) + 1), .ref 321]) fe_31_76 rfl ?_
        refine ay_t_put (pc := 77) fe_31_77 at_321 (by decide +kernel) rfl rfl ?_
        cases h
        exact ay_t_vret fe_31_80 rfl
    · rw [if_neg hc5] at h
      refine ay_t_neg (pc := 15) hc5 fe_31_15 rfl ?_
      refine ay_t_loc (pc := 18) fe_31_18 rfl ?_
      refine ay_t_getR (pc := 19) (w := .ref 323) fe_31_19 at_321 (by decide +kernel) rfl ?_
      refine ay_t_loc (pc := 22) fe_31_22 rfl ?_
      refine ay_t_loc (pc := 23) fe_31_23 rfl ?_
      refine ay_t_getR (pc := 24) (w := .ref 323) fe_31_24 at_321 (by decide +kernel) rfl ?_
      refine ay_t_stk (pc := 27) (S' := [.int 405, .ref 323, .int x1, .ref 323]) fe_31_27 rfl ?_
      refine ay_t_loc (pc := 30) fe_31_30 rfl ?_
      refine ay_t_stk (pc := 31) (S' := [.int (405 + x1), .ref 323, .int x1, .ref 323]) fe_31_31 rfl ?_
      by_cases hb9 : (405 + x1) < 0 ∨ 2430 ≤ (405 + x1).toNatClampNeg
      · rw [if_pos hb9] at h; cases h
      rw [if_neg hb9] at h
      refine ay_t_iaload (pc := 32) fe_31_32 at_323 (by decide) hb9 ?_
      by_cases hb10 : x1 < 0 ∨ 2430 ≤ x1.toNatClampNeg
      · rw [if_pos hb10] at h; cases h
      rw [if_neg hb10] at h
      refine ay_t_iastore (pc := 33) fe_31_33 at_323 hb10 ?_
      refine ay_t_loc (pc := 34) (L' := [some (.ref 321), some (.int (x1 + 1))]) fe_31_34 rfl ?_
      refine ay_t_br (pc := 37) (pc' := 11) fe_31_37 rfl ?_
      exact ay_t_less (ay_ls (ay_ls ay_l0)) (ih _ _ _ _ h)
def fn_31 (D : am_DD) : Option (Int32 × am_DD) := (if ¬ (D 321 2) = 6 then (match fn_30 322 405 323 2430 0 (405 * (D 321 2)) D with | none => none | some (y2, D3) => some (0, (am_upd D3 321 2 ((D3 321 2) + 1)))) else fn_31_11 am_F 0 D)
set_option maxHeartbeats 2000000 in
theorem ev_31 {D : am_DD} {y : Int32} {Z : am_DD} (h : fn_31  D = some (y, Z)) : ay_mo 31 [.ref 321] D (.inl none) Z := by
  unfold fn_31 at h
  refine ay_m_of (L := [some (.ref 321), none]) rfl ?_
  refine ay_t_loc (pc := 0) fe_31_0 rfl ?_
  refine ay_t_getI (pc := 1) fe_31_1 at_321 (by decide +kernel) rfl ?_
  refine ay_t_stk (pc := 4) (S' := [.int 6, .int (D 321 2)]) fe_31_4 rfl ?_
  by_cases hc1 : ¬ (D 321 2) = 6
  · rw [if_pos hc1] at h
    refine ay_t_pos (pc := 6) hc1 fe_31_6 rfl ?_
    refine ay_t_loc (pc := 50) fe_31_50 rfl ?_
    refine ay_t_getR (pc := 51) (w := .ref 322) fe_31_51 at_321 (by decide +kernel) rfl ?_
    refine ay_t_stk (pc := 54) (S' := [.int 0, .ref 322]) fe_31_54 rfl ?_
    refine ay_t_loc (pc := 55) fe_31_55 rfl ?_
    refine ay_t_getR (pc := 56) (w := .ref 323) fe_31_56 at_321 (by decide +kernel) rfl ?_
    refine ay_t_stk (pc := 59) (S' := [.int 405, .ref 323, .int 0, .ref 322]) fe_31_59 rfl ?_
    refine ay_t_loc (pc := 62) fe_31_62 rfl ?_
    refine ay_t_getI (pc := 63) fe_31_63 at_321 (by decide +kernel) rfl ?_
    refine ay_t_stk (pc := 66) (S' := [.int (405 * (D 321 2)), .ref 323, .int 0, .ref 322]) fe_31_66 rfl ?_
    cases hk4 : fn_30 322 405 323 2430 0 (405 * (D 321 2)) D with
    | none => rw [hk4] at h; cases h
    | some z =>
      obtain ⟨y2, D3⟩ := z
      rw [hk4] at h
      dsimp only at h
      refine ay_t_call (pc := 67) (w := none) fe_31_67 (ay_args [.ref 322, .int 0, .ref 323, .int (405 * (D 321 2))] [] rfl rfl (Nat.le_of_ble_eq_true rfl) (Nat.le_of_ble_eq_true rfl)) rfl (ev_30 at_322 at_323 (by decide) hk4) ?_
      refine ay_t_loc (pc := 70) fe_31_70 rfl ?_
      refine ay_t_stk (pc := 71) (S' := [.ref 321, .ref 321]) fe_31_71 rfl ?_
      refine ay_t_getI (pc := 72) fe_31_72 at_321 (by decide +kernel) rfl ?_
      refine ay_t_stk (pc := 75) (S' := [.int 1, .int (D3 321 2), .ref 321]) fe_31_75 rfl ?_
      refine ay_t_stk (pc := 76) (S' := [.int ((D3 321 2) + 1), .ref 321]) fe_31_76 rfl ?_
      refine ay_t_put (pc := 77) fe_31_77 at_321 (by decide +kernel) rfl rfl ?_
      cases h
      exact ay_t_vret fe_31_80 rfl
  · rw [if_neg hc1] at h
    refine ay_t_neg (pc := 6) hc1 fe_31_6 rfl ?_
    refine ay_t_stk (pc := 9) (S' := [.int 0]) fe_31_9 rfl ?_
    refine ay_t_loc (pc := 10) (L' := [some (.ref 321), some (.int 0)]) fe_31_10 rfl ?_
    exact ay_t_less (ay_ls (ay_ls ay_l0)) (ev_31_11 _ _ _ _ _ h)
def fn_32 (a1 a2 a3 : Int32) (D : am_DD) : Option (Int32 × am_DD) := (if ((11 + (7 * a1)) + a2) < 0 ∨ 405 ≤ ((11 + (7 * a1)) + a2).toNatClampNeg then none else some (0, (am_upd D 322 ((11 + (7 * a1)) + a2).toNatClampNeg a3)))
set_option maxHeartbeats 2000000 in
theorem ev_32 {a1 a2 a3 : Int32} {D : am_DD} {y : Int32} {Z : am_DD} (h : fn_32 a1 a2 a3 D = some (y, Z)) : ay_mo 32 [.ref 321, .int a1, .int a2, .int a3] D (.inl none) Z := by
  unfold fn_32 at h
  refine ay_m_of (L := [some (.ref 321), some (.int a1), some (.int a2), some (.int a3)]) rfl ?_
  refine ay_t_loc (pc := 0) fe_32_0 rfl ?_
  refine ay_t_getR (pc := 1) (w := .ref 322) fe_32_1 at_321 (by decide +kernel) rfl ?_
  refine ay_t_stk (pc := 4) (S' := [.int 11, .ref 322]) fe_32_4 rfl ?_
  refine ay_t_stk (pc := 6) (S' := [.int 7, .int 11, .ref 322]) fe_32_6 rfl ?_
  refine ay_t_loc (pc := 8) fe_32_8 rfl ?_
  refine ay_t_stk (pc := 9) (S' := [.int (7 * a1), .int 11, .ref 322]) fe_32_9 rfl ?_
  refine ay_t_stk (pc := 10) (S' := [.int (11 + (7 * a1)), .ref 322]) fe_32_10 rfl ?_
  refine ay_t_loc (pc := 11) fe_32_11 rfl ?_
  refine ay_t_stk (pc := 12) (S' := [.int ((11 + (7 * a1)) + a2), .ref 322]) fe_32_12 rfl ?_
  refine ay_t_loc (pc := 13) fe_32_13 rfl ?_
  by_cases hb1 : ((11 + (7 * a1)) + a2) < 0 ∨ 405 ≤ ((11 + (7 * a1)) + a2).toNatClampNeg
  · rw [if_pos hb1] at h; cases h
  rw [if_neg hb1] at h
  refine ay_t_iastore (pc := 14) fe_32_14 at_322 hb1 ?_
  cases h
  exact ay_t_vret fe_32_15 rfl
def fn_33_9 : Nat → Int32 → Int32 → Int32 → am_DD → Option (Int32 × am_DD)
  | 0, _, _, _, _ => none
  | n + 1, x1, x2, x3, D => (if 7 ≤ x3 then (match fn_32 x2 1 x1 D with | none => none | some (y2, D3) => (match fn_32 x2 2 20 D3 with | none => none | some (y5, D6) => (match fn_32 x2 3 20 D6 with | none => none | some (y8, D9) => some (x2, (am_upd D9 322 1 ((D9 322 1) + 1)))))) else (match fn_32 x2 x3 0 D with | none => none | some (y11, D12) => fn_33_9 n x1 x2 (x3 + 1) D12))
set_option maxHeartbeats 2000000 in
theorem ev_33_9 : ∀ (n : Nat) (x1 x2 x3 : Int32) (D : am_DD) (y : Int32) (Z : am_DD), fn_33_9 n x1 x2 x3 D = some (y, Z) → ay_to 33 9 [some (.ref 321), some (.int x1), some (.int x2), some (.int x3)] [] D (.inl (some (.int y))) Z := by
  intro n
  induction n with
  | zero => intro x1 x2 x3 D y Z h; cases h
  | succ n ih =>
    intro x1 x2 x3 D y Z h
    rw [fn_33_9] at h
    refine ay_t_loc (pc := 9) fe_33_9 rfl ?_
    refine ay_t_stk (pc := 10) (S' := [.int 7, .int x3]) fe_33_10 rfl ?_
    by_cases hc1 : 7 ≤ x3
    · rw [if_pos hc1] at h
      refine ay_t_pos (pc := 12) hc1 fe_33_12 rfl ?_
      refine ay_t_loc (pc := 28) fe_33_28 rfl ?_
      refine ay_t_loc (pc := 29) fe_33_29 rfl ?_
      refine ay_t_stk (pc := 30) (S' := [.int 1, .int x2, .ref 321]) fe_33_30 rfl ?_
      refine ay_t_loc (pc := 31) fe_33_31 rfl ?_
      cases hk4 : fn_32 x2 1 x1 D with
      | none => rw [hk4] at h; cases h
      | some z =>
        obtain ⟨y2, D3⟩ := z
        rw [hk4] at h
        dsimp only at h
        refine ay_t_call (pc := 32) (w := none) fe_33_32 (ay_args [.ref 321, .int x2, .int 1, .int x1] [] rfl rfl (Nat.le_of_ble_eq_true rfl) (Nat.le_of_ble_eq_true rfl)) (ay_rcvV at_321 rfl) (ev_32 hk4) ?_
        refine ay_t_loc (pc := 35) fe_33_35 rfl ?_
        refine ay_t_loc (pc := 36) fe_33_36 rfl ?_
        refine ay_t_stk (pc := 37) (S' := [.int 2, .int x2, .ref 321]) fe_33_37 rfl ?_
        refine ay_t_stk (pc := 38) (S' := [.int 20, .int 2, .int x2, .ref 321]) fe_33_38 rfl ?_
        cases hk7 : fn_32 x2 2 20 D3 with
        | none => rw [hk7] at h; cases h
        | some z =>
          obtain ⟨y5, D6⟩ := z
          rw [hk7] at h
          dsimp only at h
          refine ay_t_call (pc := 40) (w := none) fe_33_40 (ay_args [.ref 321, .int x2, .int 2, .int 20] [] rfl rfl (Nat.le_of_ble_eq_true rfl) (Nat.le_of_ble_eq_true rfl)) (ay_rcvV at_321 rfl) (ev_32 hk7) ?_
          refine ay_t_loc (pc := 43) fe_33_43 rfl ?_
          refine ay_t_loc (pc := 44) fe_33_44 rfl ?_
          refine ay_t_stk (pc := 45) (S' := [.int 3, .int x2, .ref 321]) fe_33_45 rfl ?_
          refine ay_t_stk (pc := 46) (S' := [.int 20, .int 3, .int x2, .ref 321]) fe_33_46 rfl ?_
          cases hk10 : fn_32 x2 3 20 D6 with
          | none => rw [hk10] at h; cases h
          | some z =>
            obtain ⟨y8, D9⟩ := z
            rw [hk10] at h
            dsimp only at h
            refine ay_t_call (pc := 48) (w := none) fe_33_48 (ay_args [.ref 321, .int x2, .int 3, .int 20] [] rfl rfl (Nat.le_of_ble_eq_true rfl) (Nat.le_of_ble_eq_true rfl)) (ay_rcvV at_321 rfl) (ev_32 hk10) ?_
            refine ay_t_loc (pc := 51) fe_33_51 rfl ?_
            refine ay_t_getR (pc := 52) (w := .ref 322) fe_33_52 at_321 (by decide +kernel) rfl ?_
            refine ay_t_stk (pc := 55) (S' := [.int 1, .ref 322]) fe_33_55 rfl ?_
            refine ay_t_stk (pc := 56) (S' := [.int 1, .ref 322, .int 1, .ref 322]) fe_33_56 rfl ?_
            refine ay_t_ialoadk (pc := 57) (k := 1) fe_33_57 at_322 (by decide) (by decide) (by decide) ?_
            refine ay_t_stk (pc := 58) (S' := [.int 1, .int (D9 322 1), .int 1, .ref 322]) fe_33_58 rfl ?_
            refine ay_t_stk (pc := 59) (S' := [.int ((D9 322 1) + 1), .int 1, .ref 322]) fe_33_59 rfl ?_
            refine ay_t_iastorek (pc := 60) (k := 1) fe_33_60 at_322 (by decide) (by decide) ?_
            refine ay_t_loc (pc := 61) fe_33_61 rfl ?_
            cases h
            exact ay_t_iret fe_33_62 rfl rfl
    · rw [if_neg hc1] at h
      refine ay_t_neg (pc := 12) hc1 fe_33_12 rfl ?_
      refine ay_t_loc (pc := 15) fe_33_15 rfl ?_
      refine ay_t_loc (pc := 16) fe_33_16 rfl ?_
      refine ay_t_loc (pc := 17) fe_33_17 rfl ?_
      refine ay_t_stk (pc := 18) (S' := [.int 0, .int x3, .int x2, .ref 321]) fe_33_18 rfl ?_
      cases hk13 : fn_32 x2 x3 0 D with
      | none => rw [hk13] at h; cases h
      | some z =>
        obtain ⟨y11, D12⟩ := z
        rw [hk13] at h
        dsimp only at h
        refine ay_t_call (pc := 19) (w := none) fe_33_19 (ay_args [.ref 321, .int x2, .int x3, .int 0] [] rfl rfl (Nat.le_of_ble_eq_true rfl) (Nat.le_of_ble_eq_true rfl)) (ay_rcvV at_321 rfl) (ev_32 hk13) ?_
        refine ay_t_loc (pc := 22) (L' := [some (.ref 321), some (.int x1), some (.int x2), some (.int (x3 + 1))]) fe_33_22 rfl ?_
        refine ay_t_br (pc := 25) (pc' := 9) fe_33_25 rfl ?_
        exact ay_t_less (ay_ls (ay_ls (ay_ls (ay_ls ay_l0)))) (ih _ _ _ _ _ _ h)
def fn_33 (a1 : Int32) (D : am_DD) : Option (Int32 × am_DD) := fn_33_9 am_F a1 (D 322 1) 0 D
set_option maxHeartbeats 2000000 in
theorem ev_33 {a1 : Int32} {D : am_DD} {y : Int32} {Z : am_DD} (h : fn_33 a1 D = some (y, Z)) : ay_mo 33 [.ref 321, .int a1] D (.inl (some (.int y))) Z := by
  unfold fn_33 at h
  refine ay_m_of (L := [some (.ref 321), some (.int a1), none, none]) rfl ?_
  refine ay_t_loc (pc := 0) fe_33_0 rfl ?_
  refine ay_t_getR (pc := 1) (w := .ref 322) fe_33_1 at_321 (by decide +kernel) rfl ?_
  refine ay_t_stk (pc := 4) (S' := [.int 1, .ref 322]) fe_33_4 rfl ?_
  refine ay_t_ialoadk (pc := 5) (k := 1) fe_33_5 at_322 (by decide) (by decide) (by decide) ?_
  refine ay_t_loc (pc := 6) (L' := [some (.ref 321), some (.int a1), some (.int (D 322 1)), none]) fe_33_6 rfl ?_
  refine ay_t_stk (pc := 7) (S' := [.int 0]) fe_33_7 rfl ?_
  refine ay_t_loc (pc := 8) (L' := [some (.ref 321), some (.int a1), some (.int (D 322 1)), some (.int 0)]) fe_33_8 rfl ?_
  exact ay_t_less (ay_ls (ay_ls (ay_ls (ay_ls ay_l0)))) (ev_33_9 _ _ _ _ _ _ _ h)
def fn_34 (a1 : Int32) (D : am_DD) : Option (Int32 × am_DD) := (match fn_28 a1 D with | none => none | some (y1, D2) => (match fn_29 y1 D2 with | none => none | some (y4, D5) => (if ¬ y4 = 0 then (match fn_31 D5 with | none => none | some (y8, D9) => (match fn_33 a1 D9 with | none => none | some (y11, D12) => some (y11, D12))) else some (0, D5))))
set_option maxHeartbeats 2000000 in
theorem ev_34 {a1 : Int32} {D : am_DD} {y : Int32} {Z : am_DD} (h : fn_34 a1 D = some (y, Z)) : ay_mo 34 [.ref 321, .int a1] D (.inl (some (.int y))) Z := by
  unfold fn_34 at h
  refine ay_m_of (L := [some (.ref 321), some (.int a1)]) rfl ?_
  refine ay_t_loc (pc := 0) fe_34_0 rfl ?_
  refine ay_t_loc (pc := 1) fe_34_1 rfl ?_
  refine ay_t_loc (pc := 2) fe_34_2 rfl ?_
  cases hk3 : fn_28 a1 D with
  | none => rw [hk3] at h; cases h
  | some z =>
    obtain ⟨y1, D2⟩ := z
    rw [hk3] at h
    dsimp only at h
    refine ay_t_call (pc := 3) (w := some (.int y1)) fe_34_3 (ay_args [.ref 321, .int a1] [.ref 321] rfl rfl (Nat.le_of_ble_eq_true rfl) (Nat.le_of_ble_eq_true rfl)) (ay_rcvV at_321 rfl) (ev_28 hk3) ?_
    cases hk6 : fn_29 y1 D2 with
    | none => rw [hk6] at h; cases h
    | some z =>
      obtain ⟨y4, D5⟩ := z
      rw [hk6] at h
      dsimp only at h
      refine ay_t_call (pc := 6) (w := some (.int y4)) fe_34_6 (ay_args [.ref 321, .int y1] [] rfl rfl (Nat.le_of_ble_eq_true rfl) (Nat.le_of_ble_eq_true rfl)) (ay_rcvV at_321 rfl) (ev_29 hk6) ?_
      by_cases hc7 : ¬ y4 = 0
      · rw [if_pos hc7] at h
        refine ay_t_pos (pc := 9) hc7 fe_34_9 rfl ?_
        refine ay_t_loc (pc := 14) fe_34_14 rfl ?_
        cases hk10 : fn_31 D5 with
        | none => rw [hk10] at h; cases h
        | some z =>
          obtain ⟨y8, D9⟩ := z
          rw [hk10] at h
          dsimp only at h
          refine ay_t_call (pc := 15) (w := none) fe_34_15 (ay_args [.ref 321] [] rfl rfl (Nat.le_of_ble_eq_true rfl) (Nat.le_of_ble_eq_true rfl)) (ay_rcvV at_321 rfl) (ev_31 hk10) ?_
          refine ay_t_loc (pc := 18) fe_34_18 rfl ?_
          refine ay_t_loc (pc := 19) fe_34_19 rfl ?_
          cases hk13 : fn_33 a1 D9 with
          | none => rw [hk13] at h; cases h
          | some z =>
            obtain ⟨y11, D12⟩ := z
            rw [hk13] at h
            dsimp only at h
            refine ay_t_call (pc := 20) (w := some (.int y11)) fe_34_20 (ay_args [.ref 321, .int a1] [] rfl rfl (Nat.le_of_ble_eq_true rfl) (Nat.le_of_ble_eq_true rfl)) (ay_rcvV at_321 rfl) (ev_33 hk13) ?_
            cases h
            exact ay_t_iret fe_34_23 rfl rfl
      · rw [if_neg hc7] at h
        refine ay_t_neg (pc := 9) hc7 fe_34_9 rfl ?_
        refine ay_t_stk (pc := 12) (S' := [.int 0]) fe_34_12 rfl ?_
        cases h
        exact ay_t_iret fe_34_13 rfl rfl
def fn_35 (D : am_DD) : Option (Int32 × am_DD) := some ((D 321 7), D)
set_option maxHeartbeats 2000000 in
theorem ev_35 {D : am_DD} {y : Int32} {Z : am_DD} (h : fn_35  D = some (y, Z)) : ay_mo 35 [.ref 321] D (.inl (some (.int y))) Z := by
  unfold fn_35 at h
  refine ay_m_of (L := [some (.ref 321)]) rfl ?_
  refine ay_t_loc (pc := 0) fe_35_0 rfl ?_
  refine ay_t_getI (pc := 1) fe_35_1 at_321 (by decide +kernel) rfl ?_
  cases h
  exact ay_t_iret fe_35_4 rfl rfl
def fn_36 (a1 : Int32) (D : am_DD) : Option (Int32 × am_DD) := (if a1 < 0 then some (0, D) else (if (D 8 0) ≤ a1 then some (0, D) else some (1, D)))
set_option maxHeartbeats 2000000 in
theorem ev_36 {a1 : Int32} {D : am_DD} {y : Int32} {Z : am_DD} (h : fn_36 a1 D = some (y, Z)) : ay_mo 36 [.ref 8, .int a1] D (.inl (some (.int y))) Z := by
  unfold fn_36 at h
  refine ay_m_of (L := [some (.ref 8), some (.int a1)]) rfl ?_
  refine ay_t_loc (pc := 0) fe_36_0 rfl ?_
  by_cases hc1 : a1 < 0
  · rw [if_pos hc1] at h
    refine ay_t_pos (pc := 1) hc1 fe_36_1 rfl ?_
    refine ay_t_stk (pc := 16) (S' := [.int 0]) fe_36_16 rfl ?_
    cases h
    exact ay_t_iret fe_36_17 rfl rfl
  · rw [if_neg hc1] at h
    refine ay_t_neg (pc := 1) hc1 fe_36_1 rfl ?_
    refine ay_t_loc (pc := 4) fe_36_4 rfl ?_
    refine ay_t_loc (pc := 5) fe_36_5 rfl ?_
    refine ay_t_getI (pc := 6) fe_36_6 at_8 (by decide +kernel) rfl ?_
    by_cases hc2 : (D 8 0) ≤ a1
    · rw [if_pos hc2] at h
      refine ay_t_pos (pc := 9) hc2 fe_36_9 rfl ?_
      refine ay_t_stk (pc := 16) (S' := [.int 0]) fe_36_16 rfl ?_
      cases h
      exact ay_t_iret fe_36_17 rfl rfl
    · rw [if_neg hc2] at h
      refine ay_t_neg (pc := 9) hc2 fe_36_9 rfl ?_
      refine ay_t_stk (pc := 12) (S' := [.int 1]) fe_36_12 rfl ?_
      refine ay_t_br (pc := 13) (pc' := 17) fe_36_13 rfl ?_
      cases h
      exact ay_t_iret fe_36_17 rfl rfl
def fn_37 (a1 a2 : Int32) (D : am_DD) : Option (Int32 × am_DD) := (match fn_36 a1 D with | none => none | some (y1, D2) => (if y1 = 0 then some (0, D2) else (if a2 = 0 then some (1, D2) else (if ¬ a2 = 1 then some (0, D2) else some (1, D2)))))
set_option maxHeartbeats 2000000 in
theorem ev_37 {a1 a2 : Int32} {D : am_DD} {y : Int32} {Z : am_DD} (h : fn_37 a1 a2 D = some (y, Z)) : ay_mo 37 [.ref 8, .int a1, .int a2] D (.inl (some (.int y))) Z := by
  unfold fn_37 at h
  refine ay_m_of (L := [some (.ref 8), some (.int a1), some (.int a2)]) rfl ?_
  refine ay_t_loc (pc := 0) fe_37_0 rfl ?_
  refine ay_t_loc (pc := 1) fe_37_1 rfl ?_
  cases hk3 : fn_36 a1 D with
  | none => rw [hk3] at h; cases h
  | some z =>
    obtain ⟨y1, D2⟩ := z
    rw [hk3] at h
    dsimp only at h
    refine ay_t_call (pc := 2) (w := some (.int y1)) fe_37_2 (ay_args [.ref 8, .int a1] [] rfl rfl (Nat.le_of_ble_eq_true rfl) (Nat.le_of_ble_eq_true rfl)) (ay_rcvV at_8 rfl) (ev_36 hk3) ?_
    by_cases hc4 : y1 = 0
    · rw [if_pos hc4] at h
      refine ay_t_pos (pc := 5) hc4 fe_37_5 rfl ?_
      refine ay_t_stk (pc := 21) (S' := [.int 0]) fe_37_21 rfl ?_
      cases h
      exact ay_t_iret fe_37_22 rfl rfl
    · rw [if_neg hc4] at h
      refine ay_t_neg (pc := 5) hc4 fe_37_5 rfl ?_
      refine ay_t_loc (pc := 8) fe_37_8 rfl ?_
      by_cases hc5 : a2 = 0
      · rw [if_pos hc5] at h
        refine ay_t_pos (pc := 9) hc5 fe_37_9 rfl ?_
        refine ay_t_stk (pc := 17) (S' := [.int 1]) fe_37_17 rfl ?_
        refine ay_t_br (pc := 18) (pc' := 22) fe_37_18 rfl ?_
        cases h
        exact ay_t_iret fe_37_22 rfl rfl
      · rw [if_neg hc5] at h
        refine ay_t_neg (pc := 9) hc5 fe_37_9 rfl ?_
        refine ay_t_loc (pc := 12) fe_37_12 rfl ?_
        refine ay_t_stk (pc := 13) (S' := [.int 1, .int a2]) fe_37_13 rfl ?_
        by_cases hc6 : ¬ a2 = 1
        · rw [if_pos hc6] at h
          refine ay_t_pos (pc := 14) hc6 fe_37_14 rfl ?_
          refine ay_t_stk (pc := 21) (S' := [.int 0]) fe_37_21 rfl ?_
          cases h
          exact ay_t_iret fe_37_22 rfl rfl
        · rw [if_neg hc6] at h
          refine ay_t_neg (pc := 14) hc6 fe_37_14 rfl ?_
          refine ay_t_stk (pc := 17) (S' := [.int 1]) fe_37_17 rfl ?_
          refine ay_t_br (pc := 18) (pc' := 22) fe_37_18 rfl ?_
          cases h
          exact ay_t_iret fe_37_22 rfl rfl
def fn_38 (a1 : Int32) (D : am_DD) : Option (Int32 × am_DD) := (match fn_36 a1 D with | none => none | some (y1, D2) => (if ¬ y1 = 0 then some (1, D2) else (if a1 < 20 then some (0, D2) else (if 25 ≤ a1 then some (0, D2) else some (1, D2)))))
set_option maxHeartbeats 2000000 in
theorem ev_38 {a1 : Int32} {D : am_DD} {y : Int32} {Z : am_DD} (h : fn_38 a1 D = some (y, Z)) : ay_mo 38 [.ref 8, .int a1] D (.inl (some (.int y))) Z := by
  unfold fn_38 at h
  refine ay_m_of (L := [some (.ref 8), some (.int a1)]) rfl ?_
  refine ay_t_loc (pc := 0) fe_38_0 rfl ?_
  refine ay_t_loc (pc := 1) fe_38_1 rfl ?_
  cases hk3 : fn_36 a1 D with
  | none => rw [hk3] at h; cases h
  | some z =>
    obtain ⟨y1, D2⟩ := z
    rw [hk3] at h
    dsimp only at h
    refine ay_t_call (pc := 2) (w := some (.int y1)) fe_38_2 (ay_args [.ref 8, .int a1] [] rfl rfl (Nat.le_of_ble_eq_true rfl) (Nat.le_of_ble_eq_true rfl)) (ay_rcvV at_8 rfl) (ev_36 hk3) ?_
    by_cases hc4 : ¬ y1 = 0
    · rw [if_pos hc4] at h
      refine ay_t_pos (pc := 5) hc4 fe_38_5 rfl ?_
      refine ay_t_stk (pc := 20) (S' := [.int 1]) fe_38_20 rfl ?_
      refine ay_t_br (pc := 21) (pc' := 25) fe_38_21 rfl ?_
      cases h
      exact ay_t_iret fe_38_25 rfl rfl
    · rw [if_neg hc4] at h
      refine ay_t_neg (pc := 5) hc4 fe_38_5 rfl ?_
      refine ay_t_loc (pc := 8) fe_38_8 rfl ?_
      refine ay_t_stk (pc := 9) (S' := [.int 20, .int a1]) fe_38_9 rfl ?_
      by_cases hc5 : a1 < 20
      · rw [if_pos hc5] at h
        refine ay_t_pos (pc := 11) hc5 fe_38_11 rfl ?_
        refine ay_t_stk (pc := 24) (S' := [.int 0]) fe_38_24 rfl ?_
        cases h
        exact ay_t_iret fe_38_25 rfl rfl
      · rw [if_neg hc5] at h
        refine ay_t_neg (pc := 11) hc5 fe_38_11 rfl ?_
        refine ay_t_loc (pc := 14) fe_38_14 rfl ?_
        refine ay_t_stk (pc := 15) (S' := [.int 25, .int a1]) fe_38_15 rfl ?_
        by_cases hc6 : 25 ≤ a1
        · rw [if_pos hc6] at h
          refine ay_t_pos (pc := 17) hc6 fe_38_17 rfl ?_
          refine ay_t_stk (pc := 24) (S' := [.int 0]) fe_38_24 rfl ?_
          cases h
          exact ay_t_iret fe_38_25 rfl rfl
        · rw [if_neg hc6] at h
          refine ay_t_neg (pc := 17) hc6 fe_38_17 rfl ?_
          refine ay_t_stk (pc := 20) (S' := [.int 1]) fe_38_20 rfl ?_
          refine ay_t_br (pc := 21) (pc' := 25) fe_38_21 rfl ?_
          cases h
          exact ay_t_iret fe_38_25 rfl rfl
def fn_41 (a1 a2 a3 : Int32) (D : am_DD) : Option (Int32 × am_DD) := some ((rw_at (D 16) 24 ((2 * a1) + a2)), (rw_put D 16 24 ((2 * a1) + a2) a3))
set_option maxHeartbeats 2000000 in
theorem ev_41 {a1 a2 a3 : Int32} {D : am_DD} {y : Int32} {Z : am_DD} (h : fn_41 a1 a2 a3 D = some (y, Z)) : ay_mo 41 [.ref 8, .int a1, .int a2, .int a3] D (.inl (some (.int y))) Z := by
  unfold fn_41 at h
  refine ay_m_of (L := [some (.ref 8), some (.int a1), some (.int a2), some (.int a3)]) rfl ?_
  refine ay_t_loc (pc := 0) fe_41_0 rfl ?_
  refine ay_t_getR (pc := 1) (w := .ref 15) fe_41_1 at_8 (by decide +kernel) rfl ?_
  refine ay_t_stk (pc := 4) (S' := [.int 2, .ref 15]) fe_41_4 rfl ?_
  refine ay_t_loc (pc := 5) fe_41_5 rfl ?_
  refine ay_t_stk (pc := 6) (S' := [.int (2 * a1), .ref 15]) fe_41_6 rfl ?_
  refine ay_t_loc (pc := 7) fe_41_7 rfl ?_
  refine ay_t_stk (pc := 8) (S' := [.int ((2 * a1) + a2), .ref 15]) fe_41_8 rfl ?_
  refine ay_t_loc (pc := 9) fe_41_9 rfl ?_
  refine ay_t_call (pc := 10) (w := some (.int (rw_at (D 16) 24 ((2 * a1) + a2)))) fe_41_10 (ay_args [.ref 15, .int ((2 * a1) + a2), .int a3] [] rfl rfl (Nat.le_of_ble_eq_true rfl) (Nat.le_of_ble_eq_true rfl)) (ay_rcvV at_15 rfl) (mt_exch at_15 at_16 (by decide)) ?_
  cases h
  exact ay_t_iret fe_41_13 rfl rfl
def fn_42 (a1 a2 a3 : Int32) (D : am_DD) : Option (Int32 × Nat × am_DD) := (match fn_37 a1 a2 D with | none => none | some (y1, D2) => (if y1 = 0 then some (0, 3, D2) else (match fn_38 a3 D2 with | none => none | some (y5, D6) => (if ¬ y5 = 0 then (if a1 < a3 then (match fn_22 D6 with | none => none | some (y10, D11) => (match fn_41 a1 a2 a3 D11 with | none => none | some (y13, D14) => some (y13, 0, D14))) else some (0, 1, D6)) else some (0, 3, D6)))))
set_option maxHeartbeats 2000000 in
theorem ev_42 {a1 a2 a3 : Int32} {D : am_DD} {y : Int32} {k : Nat} {Z : am_DD} (h : fn_42 a1 a2 a3 D = some (y, k, Z)) : ay_mo 42 [.ref 0, .int a1, .int a2, .int a3] D (ay_oc y k) Z := by
  unfold fn_42 at h
  refine ay_m_of (L := [some (.ref 0), some (.int a1), some (.int a2), some (.int a3)]) rfl ?_
  refine ay_t_loc (pc := 0) fe_42_0 rfl ?_
  refine ay_t_getR (pc := 1) (w := .ref 1) fe_42_1 at_0 (by decide +kernel) rfl ?_
  refine ay_t_getR (pc := 4) (w := .ref 8) fe_42_4 at_1 (by decide +kernel) rfl ?_
  refine ay_t_loc (pc := 7) fe_42_7 rfl ?_
  refine ay_t_loc (pc := 8) fe_42_8 rfl ?_
  cases hk3 : fn_37 a1 a2 D with
  | none => rw [hk3] at h; cases h
  | some z =>
    obtain ⟨y1, D2⟩ := z
    rw [hk3] at h
    dsimp only at h
    refine ay_t_call (pc := 9) (w := some (.int y1)) fe_42_9 (ay_args [.ref 8, .int a1, .int a2] [] rfl rfl (Nat.le_of_ble_eq_true rfl) (Nat.le_of_ble_eq_true rfl)) (ay_rcvV at_8 rfl) (ev_37 hk3) ?_
    by_cases hc4 : y1 = 0
    · rw [if_pos hc4] at h
      refine ay_t_pos (pc := 12) hc4 fe_42_12 rfl ?_
      cases h
      exact ay_t_thr fe_42_29 (by decide)
    · rw [if_neg hc4] at h
      refine ay_t_neg (pc := 12) hc4 fe_42_12 rfl ?_
      refine ay_t_loc (pc := 15) fe_42_15 rfl ?_
      refine ay_t_getR (pc := 16) (w := .ref 1) fe_42_16 at_0 (by decide +kernel) rfl ?_
      refine ay_t_getR (pc := 19) (w := .ref 8) fe_42_19 at_1 (by decide +kernel) rfl ?_
      refine ay_t_loc (pc := 22) fe_42_22 rfl ?_
      cases hk7 : fn_38 a3 D2 with
      | none => rw [hk7] at h; cases h
      | some z =>
        obtain ⟨y5, D6⟩ := z
        rw [hk7] at h
        dsimp only at h
        refine ay_t_call (pc := 23) (w := some (.int y5)) fe_42_23 (ay_args [.ref 8, .int a3] [] rfl rfl (Nat.le_of_ble_eq_true rfl) (Nat.le_of_ble_eq_true rfl)) (ay_rcvV at_8 rfl) (ev_38 hk7) ?_
        by_cases hc8 : ¬ y5 = 0
        · rw [if_pos hc8] at h
          refine ay_t_pos (pc := 26) hc8 fe_42_26 rfl ?_
          refine ay_t_loc (pc := 39) fe_42_39 rfl ?_
          refine ay_t_loc (pc := 40) fe_42_40 rfl ?_
          by_cases hc9 : a1 < a3
          · rw [if_pos hc9] at h
            refine ay_t_pos (pc := 41) hc9 fe_42_41 rfl ?_
            refine ay_t_loc (pc := 54) fe_42_54 rfl ?_
            refine ay_t_getR (pc := 55) (w := .ref 56) fe_42_55 at_0 (by decide +kernel) rfl ?_
            refine ay_t_loc (pc := 58) fe_42_58 rfl ?_
            refine ay_t_getR (pc := 59) (w := .ref 1) fe_42_59 at_0 (by decide +kernel) rfl ?_
            cases hk12 : fn_22 D6 with
            | none => rw [hk12] at h; cases h
            | some z =>
              obtain ⟨y10, D11⟩ := z
              rw [hk12] at h
              dsimp only at h
              refine ay_t_call (pc := 62) (w := none) fe_42_62 (ay_args [.ref 56, .ref 1] [] rfl rfl (Nat.le_of_ble_eq_true rfl) (Nat.le_of_ble_eq_true rfl)) (ay_rcvV at_56 rfl) (ev_22 hk12) ?_
              refine ay_t_loc (pc := 65) fe_42_65 rfl ?_
              refine ay_t_getR (pc := 66) (w := .ref 1) fe_42_66 at_0 (by decide +kernel) rfl ?_
              refine ay_t_getR (pc := 69) (w := .ref 8) fe_42_69 at_1 (by decide +kernel) rfl ?_
              refine ay_t_loc (pc := 72) fe_42_72 rfl ?_
              refine ay_t_loc (pc := 73) fe_42_73 rfl ?_
              refine ay_t_loc (pc := 74) fe_42_74 rfl ?_
              cases hk15 : fn_41 a1 a2 a3 D11 with
              | none => rw [hk15] at h; cases h
              | some z =>
                obtain ⟨y13, D14⟩ := z
                rw [hk15] at h
                dsimp only at h
                refine ay_t_call (pc := 75) (w := some (.int y13)) fe_42_75 (ay_args [.ref 8, .int a1, .int a2, .int a3] [] rfl rfl (Nat.le_of_ble_eq_true rfl) (Nat.le_of_ble_eq_true rfl)) (ay_rcvV at_8 rfl) (ev_41 hk15) ?_
                cases h
                exact ay_t_iret fe_42_78 rfl rfl
          · rw [if_neg hc9] at h
            refine ay_t_neg (pc := 41) hc9 fe_42_41 rfl ?_
            cases h
            exact ay_t_thr fe_42_44 (by decide)
        · rw [if_neg hc8] at h
          refine ay_t_neg (pc := 26) hc8 fe_42_26 rfl ?_
          cases h
          exact ay_t_thr fe_42_29 (by decide)
def fn_44 (a1 : Int32) (D : am_DD) : Option (Int32 × am_DD) := (match fn_26 a1 0 ((D 322 1) - 1) D with | none => none | some (y1, D2) => (if ay_isb y1 then some (y1, D2) else none))
set_option maxHeartbeats 2000000 in
theorem ev_44 {a1 : Int32} {D : am_DD} {y : Int32} {Z : am_DD} (h : fn_44 a1 D = some (y, Z)) : ay_mo 44 [.ref 321, .int a1] D (.inl (some (.int y))) Z := by
  unfold fn_44 at h
  refine ay_m_of (L := [some (.ref 321), some (.int a1)]) rfl ?_
  refine ay_t_loc (pc := 0) fe_44_0 rfl ?_
  refine ay_t_stk (pc := 1) (S' := [.int 0, .int a1]) fe_44_1 rfl ?_
  refine ay_t_loc (pc := 2) fe_44_2 rfl ?_
  refine ay_t_getR (pc := 3) (w := .ref 322) fe_44_3 at_321 (by decide +kernel) rfl ?_
  refine ay_t_stk (pc := 6) (S' := [.int 1, .ref 322, .int 0, .int a1]) fe_44_6 rfl ?_
  refine ay_t_ialoadk (pc := 7) (k := 1) fe_44_7 at_322 (by decide) (by decide) (by decide) ?_
  refine ay_t_stk (pc := 8) (S' := [.int 1, .int (D 322 1), .int 0, .int a1]) fe_44_8 rfl ?_
  refine ay_t_stk (pc := 9) (S' := [.int ((D 322 1) - 1), .int 0, .int a1]) fe_44_9 rfl ?_
  cases hk3 : fn_26 a1 0 ((D 322 1) - 1) D with
  | none => rw [hk3] at h; cases h
  | some z =>
    obtain ⟨y1, D2⟩ := z
    rw [hk3] at h
    dsimp only at h
    refine ay_t_call (pc := 10) (w := some (.int y1)) fe_44_10 (ay_args [.int a1, .int 0, .int ((D 322 1) - 1)] [] rfl rfl (Nat.le_of_ble_eq_true rfl) (Nat.le_of_ble_eq_true rfl)) rfl (ev_26 hk3) ?_
    by_cases hn4 : ay_isb y1
    · rw [if_pos hn4] at h
      cases h
      exact ay_t_zret fe_44_13 rfl hn4
    · rw [if_neg hn4] at h; cases h
def fn_45 (a1 : Int32) (D : am_DD) : Option (Int32 × am_DD) := (match fn_26 a1 0 4 D with | none => none | some (y1, D2) => (if ay_isb y1 then some (y1, D2) else none))
set_option maxHeartbeats 2000000 in
theorem ev_45 {a1 : Int32} {D : am_DD} {y : Int32} {Z : am_DD} (h : fn_45 a1 D = some (y, Z)) : ay_mo 45 [.int a1] D (.inl (some (.int y))) Z := by
  unfold fn_45 at h
  refine ay_m_of (L := [some (.int a1)]) rfl ?_
  refine ay_t_loc (pc := 0) fe_45_0 rfl ?_
  refine ay_t_stk (pc := 1) (S' := [.int 0, .int a1]) fe_45_1 rfl ?_
  refine ay_t_stk (pc := 2) (S' := [.int 4, .int 0, .int a1]) fe_45_2 rfl ?_
  cases hk3 : fn_26 a1 0 4 D with
  | none => rw [hk3] at h; cases h
  | some z =>
    obtain ⟨y1, D2⟩ := z
    rw [hk3] at h
    dsimp only at h
    refine ay_t_call (pc := 3) (w := some (.int y1)) fe_45_3 (ay_args [.int a1, .int 0, .int 4] [] rfl rfl (Nat.le_of_ble_eq_true rfl) (Nat.le_of_ble_eq_true rfl)) rfl (ev_26 hk3) ?_
    by_cases hn4 : ay_isb y1
    · rw [if_pos hn4] at h
      cases h
      exact ay_t_zret fe_45_6 rfl hn4
    · rw [if_neg hn4] at h; cases h
def fn_46 (a1 : Int32) (D : am_DD) : Option (Int32 × am_DD) := (match fn_44 a1 D with | none => none | some (y1, D2) => (if ¬ y1 = 0 then some (1, D2) else (match fn_45 (a1 - 20) D2 with | none => none | some (y5, D6) => (if y5 = 0 then some (0, D6) else some (1, D6)))))
set_option maxHeartbeats 2000000 in
theorem ev_46 {a1 : Int32} {D : am_DD} {y : Int32} {Z : am_DD} (h : fn_46 a1 D = some (y, Z)) : ay_mo 46 [.ref 321, .int a1] D (.inl (some (.int y))) Z := by
  unfold fn_46 at h
  refine ay_m_of (L := [some (.ref 321), some (.int a1)]) rfl ?_
  refine ay_t_loc (pc := 0) fe_46_0 rfl ?_
  refine ay_t_loc (pc := 1) fe_46_1 rfl ?_
  cases hk3 : fn_44 a1 D with
  | none => rw [hk3] at h; cases h
  | some z =>
    obtain ⟨y1, D2⟩ := z
    rw [hk3] at h
    dsimp only at h
    refine ay_t_call (pc := 2) (w := some (.int y1)) fe_46_2 (ay_args [.ref 321, .int a1] [] rfl rfl (Nat.le_of_ble_eq_true rfl) (Nat.le_of_ble_eq_true rfl)) (ay_rcvV at_321 rfl) (ev_44 hk3) ?_
    by_cases hc4 : ¬ y1 = 0
    · rw [if_pos hc4] at h
      refine ay_t_pos (pc := 5) hc4 fe_46_5 rfl ?_
      refine ay_t_stk (pc := 18) (S' := [.int 1]) fe_46_18 rfl ?_
      refine ay_t_br (pc := 19) (pc' := 23) fe_46_19 rfl ?_
      cases h
      exact ay_t_iret fe_46_23 rfl rfl
    · rw [if_neg hc4] at h
      refine ay_t_neg (pc := 5) hc4 fe_46_5 rfl ?_
      refine ay_t_loc (pc := 8) fe_46_8 rfl ?_
      refine ay_t_stk (pc := 9) (S' := [.int 20, .int a1]) fe_46_9 rfl ?_
      refine ay_t_stk (pc := 11) (S' := [.int (a1 - 20)]) fe_46_11 rfl ?_
      cases hk7 : fn_45 (a1 - 20) D2 with
      | none => rw [hk7] at h; cases h
      | some z =>
        obtain ⟨y5, D6⟩ := z
        rw [hk7] at h
        dsimp only at h
        refine ay_t_call (pc := 12) (w := some (.int y5)) fe_46_12 (ay_args [.int (a1 - 20)] [] rfl rfl (Nat.le_of_ble_eq_true rfl) (Nat.le_of_ble_eq_true rfl)) rfl (ev_45 hk7) ?_
        by_cases hc8 : y5 = 0
        · rw [if_pos hc8] at h
          refine ay_t_pos (pc := 15) hc8 fe_46_15 rfl ?_
          refine ay_t_stk (pc := 22) (S' := [.int 0]) fe_46_22 rfl ?_
          cases h
          exact ay_t_iret fe_46_23 rfl rfl
        · rw [if_neg hc8] at h
          refine ay_t_neg (pc := 15) hc8 fe_46_15 rfl ?_
          refine ay_t_stk (pc := 18) (S' := [.int 1]) fe_46_18 rfl ?_
          refine ay_t_br (pc := 19) (pc' := 23) fe_46_19 rfl ?_
          cases h
          exact ay_t_iret fe_46_23 rfl rfl
def fn_47 (a1 a2 a3 : Int32) (D : am_DD) : Option (Int32 × am_DD) := (match fn_44 a1 D with | none => none | some (y1, D2) => (if y1 = 0 then some (1, D2) else (match fn_26 a2 0 1 D2 with | none => none | some (y5, D6) => (if y5 = 0 then some (1, D6) else (match fn_46 a3 D6 with | none => none | some (y9, D10) => (if y9 = 0 then some (1, D10) else (if a1 < a3 then some (0, D10) else some (2, D10))))))))
set_option maxHeartbeats 2000000 in
theorem ev_47 {a1 a2 a3 : Int32} {D : am_DD} {y : Int32} {Z : am_DD} (h : fn_47 a1 a2 a3 D = some (y, Z)) : ay_mo 47 [.ref 321, .int a1, .int a2, .int a3] D (.inl (some (.int y))) Z := by
  unfold fn_47 at h
  refine ay_m_of (L := [some (.ref 321), some (.int a1), some (.int a2), some (.int a3), none]) rfl ?_
  refine ay_t_loc (pc := 0) fe_47_0 rfl ?_
  refine ay_t_loc (pc := 1) fe_47_1 rfl ?_
  cases hk3 : fn_44 a1 D with
  | none => rw [hk3] at h; cases h
  | some z =>
    obtain ⟨y1, D2⟩ := z
    rw [hk3] at h
    dsimp only at h
    refine ay_t_call (pc := 2) (w := some (.int y1)) fe_47_2 (ay_args [.ref 321, .int a1] [] rfl rfl (Nat.le_of_ble_eq_true rfl) (Nat.le_of_ble_eq_true rfl)) (ay_rcvV at_321 rfl) (ev_44 hk3) ?_
    by_cases hc4 : y1 = 0
    · rw [if_pos hc4] at h
      refine ay_t_pos (pc := 5) hc4 fe_47_5 rfl ?_
      refine ay_t_stk (pc := 29) (S' := [.int 0]) fe_47_29 rfl ?_
      refine ay_t_loc (pc := 30) (L' := [some (.ref 321), some (.int a1), some (.int a2), some (.int a3), some (.int 0)]) fe_47_30 rfl ?_
      refine ay_t_loc (pc := 32) fe_47_32 rfl ?_
      refine ay_t_br (pc := 34) (pc' := 37) fe_47_34 rfl ?_
      refine ay_t_stk (pc := 37) (S' := [.int 1]) fe_47_37 rfl ?_
      refine ay_t_br (pc := 38) (pc' := 51) fe_47_38 rfl ?_
      cases h
      exact ay_t_iret fe_47_51 rfl rfl
    · rw [if_neg hc4] at h
      refine ay_t_neg (pc := 5) hc4 fe_47_5 rfl ?_
      refine ay_t_loc (pc := 8) fe_47_8 rfl ?_
      refine ay_t_stk (pc := 9) (S' := [.int 0, .int a2]) fe_47_9 rfl ?_
      refine ay_t_stk (pc := 10) (S' := [.int 1, .int 0, .int a2]) fe_47_10 rfl ?_
      cases hk7 : fn_26 a2 0 1 D2 with
      | none => rw [hk7] at h; cases h
      | some z =>
        obtain ⟨y5, D6⟩ := z
        rw [hk7] at h
        dsimp only at h
        refine ay_t_call (pc := 11) (w := some (.int y5)) fe_47_11 (ay_args [.int a2, .int 0, .int 1] [] rfl rfl (Nat.le_of_ble_eq_true rfl) (Nat.le_of_ble_eq_true rfl)) rfl (ev_26 hk7) ?_
        by_cases hc8 : y5 = 0
        · rw [if_pos hc8] at h
          refine ay_t_pos (pc := 14) hc8 fe_47_14 rfl ?_
          refine ay_t_stk (pc := 29) (S' := [.int 0]) fe_47_29 rfl ?_
          refine ay_t_loc (pc := 30) (L' := [some (.ref 321), some (.int a1), some (.int a2), some (.int a3), some (.int 0)]) fe_47_30 rfl ?_
          refine ay_t_loc (pc := 32) fe_47_32 rfl ?_
          refine ay_t_br (pc := 34) (pc' := 37) fe_47_34 rfl ?_
          refine ay_t_stk (pc := 37) (S' := [.int 1]) fe_47_37 rfl ?_
          refine ay_t_br (pc := 38) (pc' := 51) fe_47_38 rfl ?_
          cases h
          exact ay_t_iret fe_47_51 rfl rfl
        · rw [if_neg hc8] at h
          refine ay_t_neg (pc := 14) hc8 fe_47_14 rfl ?_
          refine ay_t_loc (pc := 17) fe_47_17 rfl ?_
          refine ay_t_loc (pc := 18) fe_47_18 rfl ?_
          cases hk11 : fn_46 a3 D6 with
          | none => rw [hk11] at h; cases h
          | some z =>
            obtain ⟨y9, D10⟩ := z
            rw [hk11] at h
            dsimp only at h
            refine ay_t_call (pc := 19) (w := some (.int y9)) fe_47_19 (ay_args [.ref 321, .int a3] [] rfl rfl (Nat.le_of_ble_eq_true rfl) (Nat.le_of_ble_eq_true rfl)) (ay_rcvV at_321 rfl) (ev_46 hk11) ?_
            by_cases hc12 : y9 = 0
            · rw [if_pos hc12] at h
              refine ay_t_pos (pc := 22) hc12 fe_47_22 rfl ?_
              refine ay_t_stk (pc := 29) (S' := [.int 0]) fe_47_29 rfl ?_
              refine ay_t_loc (pc := 30) (L' := [some (.ref 321), some (.int a1), some (.int a2), some (.int a3), some (.int 0)]) fe_47_30 rfl ?_
              refine ay_t_loc (pc := 32) fe_47_32 rfl ?_
              refine ay_t_br (pc := 34) (pc' := 37) fe_47_34 rfl ?_
              refine ay_t_stk (pc := 37) (S' := [.int 1]) fe_47_37 rfl ?_
              refine ay_t_br (pc := 38) (pc' := 51) fe_47_38 rfl ?_
              cases h
              exact ay_t_iret fe_47_51 rfl rfl
            · rw [if_neg hc12] at h
              refine ay_t_neg (pc := 22) hc12 fe_47_22 rfl ?_
              refine ay_t_stk (pc := 25) (S' := [.int 1]) fe_47_25 rfl ?_
              refine ay_t_br (pc := 26) (pc' := 30) fe_47_26 rfl ?_
              refine ay_t_loc (pc := 30) (L' := [some (.ref 321), some (.int a1), some (.int a2), some (.int a3), some (.int 1)]) fe_47_30 rfl ?_
              refine ay_t_loc (pc := 32) fe_47_32 rfl ?_
              refine ay_t_br (pc := 34) (pc' := 41) fe_47_34 rfl ?_
              refine ay_t_loc (pc := 41) fe_47_41 rfl ?_
              refine ay_t_loc (pc := 42) fe_47_42 rfl ?_
              by_cases hc13 : a1 < a3
              · rw [if_pos hc13] at h
                refine ay_t_pos (pc := 43) hc13 fe_47_43 rfl ?_
                refine ay_t_stk (pc := 50) (S' := [.int 0]) fe_47_50 rfl ?_
                cases h
                exact ay_t_iret fe_47_51 rfl rfl
              · rw [if_neg hc13] at h
                refine ay_t_neg (pc := 43) hc13 fe_47_43 rfl ?_
                refine ay_t_stk (pc := 46) (S' := [.int 2]) fe_47_46 rfl ?_
                refine ay_t_br (pc := 47) (pc' := 51) fe_47_47 rfl ?_
                cases h
                exact ay_t_iret fe_47_51 rfl rfl
def fn_48 (a1 a2 : Int32) (D : am_DD) : Option (Int32 × am_DD) := (if ((11 + (7 * a1)) + a2) < 0 ∨ 405 ≤ ((11 + (7 * a1)) + a2).toNatClampNeg then none else some ((D 322 ((11 + (7 * a1)) + a2).toNatClampNeg), D))
set_option maxHeartbeats 2000000 in
theorem ev_48 {a1 a2 : Int32} {D : am_DD} {y : Int32} {Z : am_DD} (h : fn_48 a1 a2 D = some (y, Z)) : ay_mo 48 [.ref 321, .int a1, .int a2] D (.inl (some (.int y))) Z := by
  unfold fn_48 at h
  refine ay_m_of (L := [some (.ref 321), some (.int a1), some (.int a2)]) rfl ?_
  refine ay_t_loc (pc := 0) fe_48_0 rfl ?_
  refine ay_t_getR (pc := 1) (w := .ref 322) fe_48_1 at_321 (by decide +kernel) rfl ?_
  refine ay_t_stk (pc := 4) (S' := [.int 11, .ref 322]) fe_48_4 rfl ?_
  refine ay_t_stk (pc := 6) (S' := [.int 7, .int 11, .ref 322]) fe_48_6 rfl ?_
  refine ay_t_loc (pc := 8) fe_48_8 rfl ?_
  refine ay_t_stk (pc := 9) (S' := [.int (7 * a1), .int 11, .ref 322]) fe_48_9 rfl ?_
  refine ay_t_stk (pc := 10) (S' := [.int (11 + (7 * a1)), .ref 322]) fe_48_10 rfl ?_
  refine ay_t_loc (pc := 11) fe_48_11 rfl ?_
  refine ay_t_stk (pc := 12) (S' := [.int ((11 + (7 * a1)) + a2), .ref 322]) fe_48_12 rfl ?_
  by_cases hb1 : ((11 + (7 * a1)) + a2) < 0 ∨ 405 ≤ ((11 + (7 * a1)) + a2).toNatClampNeg
  · rw [if_pos hb1] at h; cases h
  rw [if_neg hb1] at h
  refine ay_t_iaload (pc := 13) fe_48_13 at_322 (by decide) hb1 ?_
  cases h
  exact ay_t_iret fe_48_14 rfl rfl
def fn_49 (a1 a2 a3 : Int32) (D : am_DD) : Option (Int32 × am_DD) := (match fn_48 a1 (2 + a2) D with | none => none | some (y1, D2) => (match fn_32 a1 (2 + a2) a3 D2 with | none => none | some (y4, D5) => some (y1, D5)))
set_option maxHeartbeats 2000000 in
theorem ev_49 {a1 a2 a3 : Int32} {D : am_DD} {y : Int32} {Z : am_DD} (h : fn_49 a1 a2 a3 D = some (y, Z)) : ay_mo 49 [.ref 321, .int a1, .int a2, .int a3] D (.inl (some (.int y))) Z := by
  unfold fn_49 at h
  refine ay_m_of (L := [some (.ref 321), some (.int a1), some (.int a2), some (.int a3), none]) rfl ?_
  refine ay_t_loc (pc := 0) fe_49_0 rfl ?_
  refine ay_t_loc (pc := 1) fe_49_1 rfl ?_
  refine ay_t_stk (pc := 2) (S' := [.int 2, .int a1, .ref 321]) fe_49_2 rfl ?_
  refine ay_t_loc (pc := 3) fe_49_3 rfl ?_
  refine ay_t_stk (pc := 4) (S' := [.int (2 + a2), .int a1, .ref 321]) fe_49_4 rfl ?_
  cases hk3 : fn_48 a1 (2 + a2) D with
  | none => rw [hk3] at h; cases h
  | some z =>
    obtain ⟨y1, D2⟩ := z
    rw [hk3] at h
    dsimp only at h
    refine ay_t_call (pc := 5) (w := some (.int y1)) fe_49_5 (ay_args [.ref 321, .int a1, .int (2 + a2)] [] rfl rfl (Nat.le_of_ble_eq_true rfl) (Nat.le_of_ble_eq_true rfl)) (ay_rcvV at_321 rfl) (ev_48 hk3) ?_
    refine ay_t_loc (pc := 8) (L' := [some (.ref 321), some (.int a1), some (.int a2), some (.int a3), some (.int y1)]) fe_49_8 rfl ?_
    refine ay_t_loc (pc := 10) fe_49_10 rfl ?_
    refine ay_t_loc (pc := 11) fe_49_11 rfl ?_
    refine ay_t_stk (pc := 12) (S' := [.int 2, .int a1, .ref 321]) fe_49_12 rfl ?_
    refine ay_t_loc (pc := 13) fe_49_13 rfl ?_
    refine ay_t_stk (pc := 14) (S' := [.int (2 + a2), .int a1, .ref 321]) fe_49_14 rfl ?_
    refine ay_t_loc (pc := 15) fe_49_15 rfl ?_
    cases hk6 : fn_32 a1 (2 + a2) a3 D2 with
    | none => rw [hk6] at h; cases h
    | some z =>
      obtain ⟨y4, D5⟩ := z
      rw [hk6] at h
      dsimp only at h
      refine ay_t_call (pc := 16) (w := none) fe_49_16 (ay_args [.ref 321, .int a1, .int (2 + a2), .int a3] [] rfl rfl (Nat.le_of_ble_eq_true rfl) (Nat.le_of_ble_eq_true rfl)) (ay_rcvV at_321 rfl) (ev_32 hk6) ?_
      refine ay_t_loc (pc := 19) fe_49_19 rfl ?_
      cases h
      exact ay_t_iret fe_49_21 rfl rfl
def fn_50 (a1 a2 a3 : Int32) (D : am_DD) : Option (Int32 × am_DD) := (match fn_47 a1 a2 a3 D with | none => none | some (y1, D2) => (match fn_29 y1 D2 with | none => none | some (y4, D5) => (if ¬ y4 = 0 then (match fn_31 D5 with | none => none | some (y8, D9) => (match fn_49 a1 a2 a3 D9 with | none => none | some (y11, D12) => some (y11, D12))) else some (0, D5))))
set_option maxHeartbeats 2000000 in
theorem ev_50 {a1 a2 a3 : Int32} {D : am_DD} {y : Int32} {Z : am_DD} (h : fn_50 a1 a2 a3 D = some (y, Z)) : ay_mo 50 [.ref 321, .int a1, .int a2, .int a3] D (.inl (some (.int y))) Z := by
  unfold fn_50 at h
  refine ay_m_of (L := [some (.ref 321), some (.int a1), some (.int a2), some (.int a3)]) rfl ?_
  refine ay_t_loc (pc := 0) fe_50_0 rfl ?_
  refine ay_t_loc (pc := 1) fe_50_1 rfl ?_
  refine ay_t_loc (pc := 2) fe_50_2 rfl ?_
  refine ay_t_loc (pc := 3) fe_50_3 rfl ?_
  refine ay_t_loc (pc := 4) fe_50_4 rfl ?_
  cases hk3 : fn_47 a1 a2 a3 D with
  | none => rw [hk3] at h; cases h
  | some z =>
    obtain ⟨y1, D2⟩ := z
    rw [hk3] at h
    dsimp only at h
    refine ay_t_call (pc := 5) (w := some (.int y1)) fe_50_5 (ay_args [.ref 321, .int a1, .int a2, .int a3] [.ref 321] rfl rfl (Nat.le_of_ble_eq_true rfl) (Nat.le_of_ble_eq_true rfl)) (ay_rcvV at_321 rfl) (ev_47 hk3) ?_
    cases hk6 : fn_29 y1 D2 with
    | none => rw [hk6] at h; cases h
    | some z =>
      obtain ⟨y4, D5⟩ := z
      rw [hk6] at h
      dsimp only at h
      refine ay_t_call (pc := 8) (w := some (.int y4)) fe_50_8 (ay_args [.ref 321, .int y1] [] rfl rfl (Nat.le_of_ble_eq_true rfl) (Nat.le_of_ble_eq_true rfl)) (ay_rcvV at_321 rfl) (ev_29 hk6) ?_
      by_cases hc7 : ¬ y4 = 0
      · rw [if_pos hc7] at h
        refine ay_t_pos (pc := 11) hc7 fe_50_11 rfl ?_
        refine ay_t_loc (pc := 16) fe_50_16 rfl ?_
        cases hk10 : fn_31 D5 with
        | none => rw [hk10] at h; cases h
        | some z =>
          obtain ⟨y8, D9⟩ := z
          rw [hk10] at h
          dsimp only at h
          refine ay_t_call (pc := 17) (w := none) fe_50_17 (ay_args [.ref 321] [] rfl rfl (Nat.le_of_ble_eq_true rfl) (Nat.le_of_ble_eq_true rfl)) (ay_rcvV at_321 rfl) (ev_31 hk10) ?_
          refine ay_t_loc (pc := 20) fe_50_20 rfl ?_
          refine ay_t_loc (pc := 21) fe_50_21 rfl ?_
          refine ay_t_loc (pc := 22) fe_50_22 rfl ?_
          refine ay_t_loc (pc := 23) fe_50_23 rfl ?_
          cases hk13 : fn_49 a1 a2 a3 D9 with
          | none => rw [hk13] at h; cases h
          | some z =>
            obtain ⟨y11, D12⟩ := z
            rw [hk13] at h
            dsimp only at h
            refine ay_t_call (pc := 24) (w := some (.int y11)) fe_50_24 (ay_args [.ref 321, .int a1, .int a2, .int a3] [] rfl rfl (Nat.le_of_ble_eq_true rfl) (Nat.le_of_ble_eq_true rfl)) (ay_rcvV at_321 rfl) (ev_49 hk13) ?_
            cases h
            exact ay_t_iret fe_50_27 rfl rfl
      · rw [if_neg hc7] at h
        refine ay_t_neg (pc := 11) hc7 fe_50_11 rfl ?_
        refine ay_t_stk (pc := 14) (S' := [.int 0]) fe_50_14 rfl ?_
        cases h
        exact ay_t_iret fe_50_15 rfl rfl
def fn_51 (a1 a2 : Int32) (D : am_DD) : Option (Int32 × am_DD) := some ((rw_at (D 12) 12 a1), (rw_put D 12 12 a1 a2))
set_option maxHeartbeats 2000000 in
theorem ev_51 {a1 a2 : Int32} {D : am_DD} {y : Int32} {Z : am_DD} (h : fn_51 a1 a2 D = some (y, Z)) : ay_mo 51 [.ref 8, .int a1, .int a2] D (.inl (some (.int y))) Z := by
  unfold fn_51 at h
  refine ay_m_of (L := [some (.ref 8), some (.int a1), some (.int a2)]) rfl ?_
  refine ay_t_loc (pc := 0) fe_51_0 rfl ?_
  refine ay_t_getR (pc := 1) (w := .ref 11) fe_51_1 at_8 (by decide +kernel) rfl ?_
  refine ay_t_loc (pc := 4) fe_51_4 rfl ?_
  refine ay_t_loc (pc := 5) fe_51_5 rfl ?_
  refine ay_t_call (pc := 6) (w := some (.int (rw_at (D 12) 12 a1))) fe_51_6 (ay_args [.ref 11, .int a1, .int a2] [] rfl rfl (Nat.le_of_ble_eq_true rfl) (Nat.le_of_ble_eq_true rfl)) (ay_rcvV at_11 rfl) (mt_exch at_11 at_12 (by decide)) ?_
  cases h
  exact ay_t_iret fe_51_9 rfl rfl
def fn_52 (a1 a2 : Int32) (D : am_DD) : Option (Int32 × Nat × am_DD) := (match fn_36 a1 D with | none => none | some (y1, D2) => (if ¬ y1 = 0 then (match fn_13 a2 D2 with | none => none | some (y5, D6) => (if ¬ y5 = 0 then (match fn_22 D6 with | none => none | some (y9, D10) => (match fn_51 a1 a2 D10 with | none => none | some (y12, D13) => some (y12, 0, D13))) else some (0, 1, D6))) else some (0, 3, D2)))
set_option maxHeartbeats 2000000 in
theorem ev_52 {a1 a2 : Int32} {D : am_DD} {y : Int32} {k : Nat} {Z : am_DD} (h : fn_52 a1 a2 D = some (y, k, Z)) : ay_mo 52 [.ref 0, .int a1, .int a2] D (ay_oc y k) Z := by
  unfold fn_52 at h
  refine ay_m_of (L := [some (.ref 0), some (.int a1), some (.int a2)]) rfl ?_
  refine ay_t_loc (pc := 0) fe_52_0 rfl ?_
  refine ay_t_getR (pc := 1) (w := .ref 1) fe_52_1 at_0 (by decide +kernel) rfl ?_
  refine ay_t_getR (pc := 4) (w := .ref 8) fe_52_4 at_1 (by decide +kernel) rfl ?_
  refine ay_t_loc (pc := 7) fe_52_7 rfl ?_
  cases hk3 : fn_36 a1 D with
  | none => rw [hk3] at h; cases h
  | some z =>
    obtain ⟨y1, D2⟩ := z
    rw [hk3] at h
    dsimp only at h
    refine ay_t_call (pc := 8) (w := some (.int y1)) fe_52_8 (ay_args [.ref 8, .int a1] [] rfl rfl (Nat.le_of_ble_eq_true rfl) (Nat.le_of_ble_eq_true rfl)) (ay_rcvV at_8 rfl) (ev_36 hk3) ?_
    by_cases hc4 : ¬ y1 = 0
    · rw [if_pos hc4] at h
      refine ay_t_pos (pc := 11) hc4 fe_52_11 rfl ?_
      refine ay_t_loc (pc := 24) fe_52_24 rfl ?_
      cases hk7 : fn_13 a2 D2 with
      | none => rw [hk7] at h; cases h
      | some z =>
        obtain ⟨y5, D6⟩ := z
        rw [hk7] at h
        dsimp only at h
        refine ay_t_call (pc := 25) (w := some (.int y5)) fe_52_25 (ay_args [.int a2] [] rfl rfl (Nat.le_of_ble_eq_true rfl) (Nat.le_of_ble_eq_true rfl)) rfl (ev_13 hk7) ?_
        by_cases hc8 : ¬ y5 = 0
        · rw [if_pos hc8] at h
          refine ay_t_pos (pc := 28) hc8 fe_52_28 rfl ?_
          refine ay_t_loc (pc := 41) fe_52_41 rfl ?_
          refine ay_t_getR (pc := 42) (w := .ref 56) fe_52_42 at_0 (by decide +kernel) rfl ?_
          refine ay_t_loc (pc := 45) fe_52_45 rfl ?_
          refine ay_t_getR (pc := 46) (w := .ref 1) fe_52_46 at_0 (by decide +kernel) rfl ?_
          cases hk11 : fn_22 D6 with
          | none => rw [hk11] at h; cases h
          | some z =>
            obtain ⟨y9, D10⟩ := z
            rw [hk11] at h
            dsimp only at h
            refine ay_t_call (pc := 49) (w := none) fe_52_49 (ay_args [.ref 56, .ref 1] [] rfl rfl (Nat.le_of_ble_eq_true rfl) (Nat.le_of_ble_eq_true rfl)) (ay_rcvV at_56 rfl) (ev_22 hk11) ?_
            refine ay_t_loc (pc := 52) fe_52_52 rfl ?_
            refine ay_t_getR (pc := 53) (w := .ref 1) fe_52_53 at_0 (by decide +kernel) rfl ?_
            refine ay_t_getR (pc := 56) (w := .ref 8) fe_52_56 at_1 (by decide +kernel) rfl ?_
            refine ay_t_loc (pc := 59) fe_52_59 rfl ?_
            refine ay_t_loc (pc := 60) fe_52_60 rfl ?_
            cases hk14 : fn_51 a1 a2 D10 with
            | none => rw [hk14] at h; cases h
            | some z =>
              obtain ⟨y12, D13⟩ := z
              rw [hk14] at h
              dsimp only at h
              refine ay_t_call (pc := 61) (w := some (.int y12)) fe_52_61 (ay_args [.ref 8, .int a1, .int a2] [] rfl rfl (Nat.le_of_ble_eq_true rfl) (Nat.le_of_ble_eq_true rfl)) (ay_rcvV at_8 rfl) (ev_51 hk14) ?_
              cases h
              exact ay_t_iret fe_52_64 rfl rfl
        · rw [if_neg hc8] at h
          refine ay_t_neg (pc := 28) hc8 fe_52_28 rfl ?_
          cases h
          exact ay_t_thr fe_52_31 (by decide)
    · rw [if_neg hc4] at h
      refine ay_t_neg (pc := 11) hc4 fe_52_11 rfl ?_
      cases h
      exact ay_t_thr fe_52_14 (by decide)
def fn_54 (a1 a2 : Int32) (D : am_DD) : Option (Int32 × am_DD) := (match fn_44 a1 D with | none => none | some (y1, D2) => (if ¬ y1 = 0 then (match fn_27 a2 D2 with | none => none | some (y5, D6) => (if ¬ y5 = 0 then (match fn_29 0 D6 with | none => none | some (y9, D10) => (if ¬ y9 = 0 then (match fn_31 D10 with | none => none | some (y13, D14) => (match fn_48 a1 1 D14 with | none => none | some (y16, D17) => (match fn_32 a1 1 a2 D17 with | none => none | some (y19, D20) => some (y16, D20)))) else some (0, D10))) else (match fn_29 2 D6 with | none => none | some (y22, D23) => (if ¬ y22 = 0 then (match fn_31 D23 with | none => none | some (y26, D27) => (match fn_48 a1 1 D27 with | none => none | some (y29, D30) => (match fn_32 a1 1 a2 D30 with | none => none | some (y32, D33) => some (y29, D33)))) else some (0, D23))))) else (match fn_29 1 D2 with | none => none | some (y35, D36) => (if ¬ y35 = 0 then (match fn_31 D36 with | none => none | some (y39, D40) => (match fn_48 a1 1 D40 with | none => none | some (y42, D43) => (match fn_32 a1 1 a2 D43 with | none => none | some (y45, D46) => some (y42, D46)))) else some (0, D36)))))
set_option maxHeartbeats 2000000 in
theorem ev_54 {a1 a2 : Int32} {D : am_DD} {y : Int32} {Z : am_DD} (h : fn_54 a1 a2 D = some (y, Z)) : ay_mo 54 [.ref 321, .int a1, .int a2] D (.inl (some (.int y))) Z := by
  unfold fn_54 at h
  refine ay_m_of (L := [some (.ref 321), some (.int a1), some (.int a2), none]) rfl ?_
  refine ay_t_loc (pc := 0) fe_54_0 rfl ?_
  refine ay_t_loc (pc := 1) fe_54_1 rfl ?_
  refine ay_t_loc (pc := 2) fe_54_2 rfl ?_
  cases hk3 : fn_44 a1 D with
  | none => rw [hk3] at h; cases h
  | some z =>
    obtain ⟨y1, D2⟩ := z
    rw [hk3] at h
    dsimp only at h
    refine ay_t_call (pc := 3) (w := some (.int y1)) fe_54_3 (ay_args [.ref 321, .int a1] [.ref 321] rfl rfl (Nat.le_of_ble_eq_true rfl) (Nat.le_of_ble_eq_true rfl)) (ay_rcvV at_321 rfl) (ev_44 hk3) ?_
    by_cases hc4 : ¬ y1 = 0
    · rw [if_pos hc4] at h
      refine ay_t_pos (pc := 6) hc4 fe_54_6 rfl ?_
      refine ay_t_loc (pc := 13) fe_54_13 rfl ?_
      cases hk7 : fn_27 a2 D2 with
      | none => rw [hk7] at h; cases h
      | some z =>
        obtain ⟨y5, D6⟩ := z
        rw [hk7] at h
        dsimp only at h
        refine ay_t_call (pc := 14) (w := some (.int y5)) fe_54_14 (ay_args [.int a2] [.ref 321] rfl rfl (Nat.le_of_ble_eq_true rfl) (Nat.le_of_ble_eq_true rfl)) rfl (ev_27 hk7) ?_
        by_cases hc8 : ¬ y5 = 0
        · rw [if_pos hc8] at h
          refine ay_t_pos (pc := 17) hc8 fe_54_17 rfl ?_
          refine ay_t_stk (pc := 24) (S' := [.int 0, .ref 321]) fe_54_24 rfl ?_
          cases hk11 : fn_29 0 D6 with
          | none => rw [hk11] at h; cases h
          | some z =>
            obtain ⟨y9, D10⟩ := z
            rw [hk11] at h
            dsimp only at h
            refine ay_t_call (pc := 25) (w := some (.int y9)) fe_54_25 (ay_args [.ref 321, .int 0] [] rfl rfl (Nat.le_of_ble_eq_true rfl) (Nat.le_of_ble_eq_true rfl)) (ay_rcvV at_321 rfl) (ev_29 hk11) ?_
            by_cases hc12 : ¬ y9 = 0
            · rw [if_pos hc12] at h
              refine ay_t_pos (pc := 28) hc12 fe_54_28 rfl ?_
              refine ay_t_loc (pc := 33) fe_54_33 rfl ?_
              cases hk15 : fn_31 D10 with
              | none => rw [hk15] at h; cases h
              | some z =>
                obtain ⟨y13, D14⟩ := z
                rw [hk15] at h
                dsimp only at h
                refine ay_t_call (pc := 34) (w := none) fe_54_34 (ay_args [.ref 321] [] rfl rfl (Nat.le_of_ble_eq_true rfl) (Nat.le_of_ble_eq_true rfl)) (ay_rcvV at_321 rfl) (ev_31 hk15) ?_
                refine ay_t_loc (pc := 37) fe_54_37 rfl ?_
                refine ay_t_loc (pc := 38) fe_54_38 rfl ?_
                refine ay_t_stk (pc := 39) (S' := [.int 1, .int a1, .ref 321]) fe_54_39 rfl ?_
                cases hk18 : fn_48 a1 1 D14 with
                | none => rw [hk18] at h; cases h
                | some z =>
                  obtain ⟨y16, D17⟩ := z
                  rw [hk18] at h
                  dsimp only at h
                  refine ay_t_call (pc := 40) (w := some (.int y16)) fe_54_40 (ay_args [.ref 321, .int a1, .int 1] [] rfl rfl (Nat.le_of_ble_eq_true rfl) (Nat.le_of_ble_eq_true rfl)) (ay_rcvV at_321 rfl) (ev_48 hk18) ?_
                  refine ay_t_loc (pc := 43) (L' := [some (.ref 321), some (.int a1), some (.int a2), some (.int y16)]) fe_54_43 rfl ?_
                  refine ay_t_loc (pc := 44) fe_54_44 rfl ?_
                  refine ay_t_loc (pc := 45) fe_54_45 rfl ?_
                  refine ay_t_stk (pc := 46) (S' := [.int 1, .int a1, .ref 321]) fe_54_46 rfl ?_
                  refine ay_t_loc (pc := 47) fe_54_47 rfl ?_
                  cases hk21 : fn_32 a1 1 a2 D17 with
                  | none => rw [hk21] at h; cases h
                  | some z =>
                    obtain ⟨y19, D20⟩ := z
                    rw [hk21] at h
                    dsimp only at h
                    refine ay_t_call (pc := 48) (w := none) fe_54_48 (ay_args [.ref 321, .int a1, .int 1, .int a2] [] rfl rfl (Nat.le_of_ble_eq_true rfl) (Nat.le_of_ble_eq_true rfl)) (ay_rcvV at_321 rfl) (ev_32 hk21) ?_
                    refine ay_t_loc (pc := 51) fe_54_51 rfl ?_
                    cases h
                    exact ay_t_iret fe_54_52 rfl rfl
            · rw [if_neg hc12] at h
              refine ay_t_neg (pc := 28) hc12 fe_54_28 rfl ?_
              refine ay_t_stk (pc := 31) (S' := [.int 0]) fe_54_31 rfl ?_
              cases h
              exact ay_t_iret fe_54_32 rfl rfl
        · rw [if_neg hc8] at h
          refine ay_t_neg (pc := 17) hc8 fe_54_17 rfl ?_
          refine ay_t_stk (pc := 20) (S' := [.int 2, .ref 321]) fe_54_20 rfl ?_
          refine ay_t_br (pc := 21) (pc' := 25) fe_54_21 rfl ?_
          cases hk24 : fn_29 2 D6 with
          | none => rw [hk24] at h; cases h
          | some z =>
            obtain ⟨y22, D23⟩ := z
            rw [hk24] at h
            dsimp only at h
            refine ay_t_call (pc := 25) (w := some (.int y22)) fe_54_25 (ay_args [.ref 321, .int 2] [] rfl rfl (Nat.le_of_ble_eq_true rfl) (Nat.le_of_ble_eq_true rfl)) (ay_rcvV at_321 rfl) (ev_29 hk24) ?_
            by_cases hc25 : ¬ y22 = 0
            · rw [if_pos hc25] at h
              refine ay_t_pos (pc := 28) hc25 fe_54_28 rfl ?_
              refine ay_t_loc (pc := 33) fe_54_33 rfl ?_
              cases hk28 : fn_31 D23 with
              | none => rw [hk28] at h; cases h
              | some z =>
                obtain ⟨y26, D27⟩ := z
                rw [hk28] at h
                dsimp only at h
                refine ay_t_call (pc := 34) (w := none) fe_54_34 (ay_args [.ref 321] [] rfl rfl (Nat.le_of_ble_eq_true rfl) (Nat.le_of_ble_eq_true rfl)) (ay_rcvV at_321 rfl) (ev_31 hk28) ?_
                refine ay_t_loc (pc := 37) fe_54_37 rfl ?_
                refine ay_t_loc (pc := 38) fe_54_38 rfl ?_
                refine ay_t_stk (pc := 39) (S' := [.int 1, .int a1, .ref 321]) fe_54_39 rfl ?_
                cases hk31 : fn_48 a1 1 D27 with
                | none => rw [hk31] at h; cases h
                | some z =>
                  obtain ⟨y29, D30⟩ := z
                  rw [hk31] at h
                  dsimp only at h
                  refine ay_t_call (pc := 40) (w := some (.int y29)) fe_54_40 (ay_args [.ref 321, .int a1, .int 1] [] rfl rfl (Nat.le_of_ble_eq_true rfl) (Nat.le_of_ble_eq_true rfl)) (ay_rcvV at_321 rfl) (ev_48 hk31) ?_
                  refine ay_t_loc (pc := 43) (L' := [some (.ref 321), some (.int a1), some (.int a2), some (.int y29)]) fe_54_43 rfl ?_
                  refine ay_t_loc (pc := 44) fe_54_44 rfl ?_
                  refine ay_t_loc (pc := 45) fe_54_45 rfl ?_
                  refine ay_t_stk (pc := 46) (S' := [.int 1, .int a1, .ref 321]) fe_54_46 rfl ?_
                  refine ay_t_loc (pc := 47) fe_54_47 rfl ?_
                  cases hk34 : fn_32 a1 1 a2 D30 with
                  | none => rw [hk34] at h; cases h
                  | some z =>
                    obtain ⟨y32, D33⟩ := z
                    rw [hk34] at h
                    dsimp only at h
                    refine ay_t_call (pc := 48) (w := none) fe_54_48 (ay_args [.ref 321, .int a1, .int 1, .int a2] [] rfl rfl (Nat.le_of_ble_eq_true rfl) (Nat.le_of_ble_eq_true rfl)) (ay_rcvV at_321 rfl) (ev_32 hk34) ?_
                    refine ay_t_loc (pc := 51) fe_54_51 rfl ?_
                    cases h
                    exact ay_t_iret fe_54_52 rfl rfl
            · rw [if_neg hc25] at h
              refine ay_t_neg (pc := 28) hc25 fe_54_28 rfl ?_
              refine ay_t_stk (pc := 31) (S' := [.int 0]) fe_54_31 rfl ?_
              cases h
              exact ay_t_iret fe_54_32 rfl rfl
    · rw [if_neg hc4] at h
      refine ay_t_neg (pc := 6) hc4 fe_54_6 rfl ?_
      refine ay_t_stk (pc := 9) (S' := [.int 1, .ref 321]) fe_54_9 rfl ?_
      refine ay_t_br (pc := 10) (pc' := 25) fe_54_10 rfl ?_
      cases hk37 : fn_29 1 D2 with
      | none => rw [hk37] at h; cases h
      | some z =>
        obtain ⟨y35, D36⟩ := z
        rw [hk37] at h
        dsimp only at h
        refine ay_t_call (pc := 25) (w := some (.int y35)) fe_54_25 (ay_args [.ref 321, .int 1] [] rfl rfl (Nat.le_of_ble_eq_true rfl) (Nat.le_of_ble_eq_true rfl)) (ay_rcvV at_321 rfl) (ev_29 hk37) ?_
        by_cases hc38 : ¬ y35 = 0
        · rw [if_pos hc38] at h
          refine ay_t_pos (pc := 28) hc38 fe_54_28 rfl ?_
          refine ay_t_loc (pc := 33) fe_54_33 rfl ?_
          cases hk41 : fn_31 D36 with
          | none => rw [hk41] at h; cases h
          | some z =>
            obtain ⟨y39, D40⟩ := z
            rw [hk41] at h
            dsimp only at h
            refine ay_t_call (pc := 34) (w := none) fe_54_34 (ay_args [.ref 321] [] rfl rfl (Nat.le_of_ble_eq_true rfl) (Nat.le_of_ble_eq_true rfl)) (ay_rcvV at_321 rfl) (ev_31 hk41) ?_
            refine ay_t_loc (pc := 37) fe_54_37 rfl ?_
            refine ay_t_loc (pc := 38) fe_54_38 rfl ?_
            refine ay_t_stk (pc := 39) (S' := [.int 1, .int a1, .ref 321]) fe_54_39 rfl ?_
            cases hk44 : fn_48 a1 1 D40 with
            | none => rw [hk44] at h; cases h
            | some z =>
              obtain ⟨y42, D43⟩ := z
              rw [hk44] at h
              dsimp only at h
              refine ay_t_call (pc := 40) (w := some (.int y42)) fe_54_40 (ay_args [.ref 321, .int a1, .int 1] [] rfl rfl (Nat.le_of_ble_eq_true rfl) (Nat.le_of_ble_eq_true rfl)) (ay_rcvV at_321 rfl) (ev_48 hk44) ?_
              refine ay_t_loc (pc := 43) (L' := [some (.ref 321), some (.int a1), some (.int a2), some (.int y42)]) fe_54_43 rfl ?_
              refine ay_t_loc (pc := 44) fe_54_44 rfl ?_
              refine ay_t_loc (pc := 45) fe_54_45 rfl ?_
              refine ay_t_stk (pc := 46) (S' := [.int 1, .int a1, .ref 321]) fe_54_46 rfl ?_
              refine ay_t_loc (pc := 47) fe_54_47 rfl ?_
              cases hk47 : fn_32 a1 1 a2 D43 with
              | none => rw [hk47] at h; cases h
              | some z =>
                obtain ⟨y45, D46⟩ := z
                rw [hk47] at h
                dsimp only at h
                refine ay_t_call (pc := 48) (w := none) fe_54_48 (ay_args [.ref 321, .int a1, .int 1, .int a2] [] rfl rfl (Nat.le_of_ble_eq_true rfl) (Nat.le_of_ble_eq_true rfl)) (ay_rcvV at_321 rfl) (ev_32 hk47) ?_
                refine ay_t_loc (pc := 51) fe_54_51 rfl ?_
                cases h
                exact ay_t_iret fe_54_52 rfl rfl
        · rw [if_neg hc38] at h
          refine ay_t_neg (pc := 28) hc38 fe_54_28 rfl ?_
          refine ay_t_stk (pc := 31) (S' := [.int 0]) fe_54_31 rfl ?_
          cases h
          exact ay_t_iret fe_54_32 rfl rfl
def fn_56 (a1 : Int32) (D : am_DD) : Option (Int32 × am_DD) := some ((rw_at ((rw_put (rw_raise D 14 12 a1 1) 10 12 a1 (1 - (rw_at ((rw_raise D 14 12 a1 1) 10) 12 a1))) 10) 12 a1), (rw_put (rw_raise D 14 12 a1 1) 10 12 a1 (1 - (rw_at ((rw_raise D 14 12 a1 1) 10) 12 a1))))
set_option maxHeartbeats 2000000 in
theorem ev_56 {a1 : Int32} {D : am_DD} {y : Int32} {Z : am_DD} (h : fn_56 a1 D = some (y, Z)) : ay_mo 56 [.ref 8, .int a1] D (.inl (some (.int y))) Z := by
  unfold fn_56 at h
  refine ay_m_of (L := [some (.ref 8), some (.int a1)]) rfl ?_
  refine ay_t_loc (pc := 0) fe_56_0 rfl ?_
  refine ay_t_getR (pc := 1) (w := .ref 13) fe_56_1 at_8 (by decide +kernel) rfl ?_
  refine ay_t_loc (pc := 4) fe_56_4 rfl ?_
  refine ay_t_stk (pc := 5) (S' := [.int 1, .int a1, .ref 13]) fe_56_5 rfl ?_
  refine ay_t_call (pc := 6) (w := none) fe_56_6 (ay_args [.ref 13, .int a1, .int 1] [] rfl rfl (Nat.le_of_ble_eq_true rfl) (Nat.le_of_ble_eq_true rfl)) (ay_rcvV at_13 rfl) (mt_raise at_13 at_14 (by decide)) ?_
  refine ay_t_loc (pc := 9) fe_56_9 rfl ?_
  refine ay_t_getR (pc := 10) (w := .ref 9) fe_56_10 at_8 (by decide +kernel) rfl ?_
  refine ay_t_loc (pc := 13) fe_56_13 rfl ?_
  refine ay_t_stk (pc := 14) (S' := [.int 1, .int a1, .ref 9]) fe_56_14 rfl ?_
  refine ay_t_loc (pc := 15) fe_56_15 rfl ?_
  refine ay_t_getR (pc := 16) (w := .ref 9) fe_56_16 at_8 (by decide +kernel) rfl ?_
  refine ay_t_loc (pc := 19) fe_56_19 rfl ?_
  refine ay_t_call (pc := 20) (w := some (.int (rw_at ((rw_raise D 14 12 a1 1) 10) 12 a1))) fe_56_20 (ay_args [.ref 9, .int a1] [.int 1, .int a1, .ref 9] rfl rfl (Nat.le_of_ble_eq_true rfl) (Nat.le_of_ble_eq_true rfl)) (ay_rcvV at_9 rfl) (mt_at at_9 at_10 (by decide)) ?_
  refine ay_t_stk (pc := 23) (S' := [.int (1 - (rw_at ((rw_raise D 14 12 a1 1) 10) 12 a1)), .int a1, .ref 9]) fe_56_23 rfl ?_
  refine ay_t_call (pc := 24) (w := none) fe_56_24 (ay_args [.ref 9, .int a1, .int (1 - (rw_at ((rw_raise D 14 12 a1 1) 10) 12 a1))] [] rfl rfl (Nat.le_of_ble_eq_true rfl) (Nat.le_of_ble_eq_true rfl)) (ay_rcvV at_9 rfl) (mt_put at_9 at_10 (by decide)) ?_
  refine ay_t_loc (pc := 27) fe_56_27 rfl ?_
  refine ay_t_getR (pc := 28) (w := .ref 9) fe_56_28 at_8 (by decide +kernel) rfl ?_
  refine ay_t_loc (pc := 31) fe_56_31 rfl ?_
  refine ay_t_call (pc := 32) (w := some (.int (rw_at ((rw_put (rw_raise D 14 12 a1 1) 10 12 a1 (1 - (rw_at ((rw_raise D 14 12 a1 1) 10) 12 a1))) 10) 12 a1))) fe_56_32 (ay_args [.ref 9, .int a1] [] rfl rfl (Nat.le_of_ble_eq_true rfl) (Nat.le_of_ble_eq_true rfl)) (ay_rcvV at_9 rfl) (mt_at at_9 at_10 (by decide)) ?_
  cases h
  exact ay_t_iret fe_56_35 rfl rfl
def fn_57 (a1 : Int32) (D : am_DD) : Option (Int32 × Nat × am_DD) := (match fn_36 a1 D with | none => none | some (y1, D2) => (if ¬ y1 = 0 then (match fn_22 D2 with | none => none | some (y5, D6) => (match fn_56 a1 D6 with | none => none | some (y8, D9) => some (y8, 0, D9))) else some (0, 3, D2)))
set_option maxHeartbeats 2000000 in
theorem ev_57 {a1 : Int32} {D : am_DD} {y : Int32} {k : Nat} {Z : am_DD} (h : fn_57 a1 D = some (y, k, Z)) : ay_mo 57 [.ref 0, .int a1] D (ay_oc y k) Z := by
  unfold fn_57 at h
  refine ay_m_of (L := [some (.ref 0), some (.int a1)]) rfl ?_
  refine ay_t_loc (pc := 0) fe_57_0 rfl ?_
  refine ay_t_getR (pc := 1) (w := .ref 1) fe_57_1 at_0 (by decide +kernel) rfl ?_
  refine ay_t_getR (pc := 4) (w := .ref 8) fe_57_4 at_1 (by decide +kernel) rfl ?_
  refine ay_t_loc (pc := 7) fe_57_7 rfl ?_
  cases hk3 : fn_36 a1 D with
  | none => rw [hk3] at h; cases h
  | some z =>
    obtain ⟨y1, D2⟩ := z
    rw [hk3] at h
    dsimp only at h
    refine ay_t_call (pc := 8) (w := some (.int y1)) fe_57_8 (ay_args [.ref 8, .int a1] [] rfl rfl (Nat.le_of_ble_eq_true rfl) (Nat.le_of_ble_eq_true rfl)) (ay_rcvV at_8 rfl) (ev_36 hk3) ?_
    by_cases hc4 : ¬ y1 = 0
    · rw [if_pos hc4] at h
      refine ay_t_pos (pc := 11) hc4 fe_57_11 rfl ?_
      refine ay_t_loc (pc := 24) fe_57_24 rfl ?_
      refine ay_t_getR (pc := 25) (w := .ref 56) fe_57_25 at_0 (by decide +kernel) rfl ?_
      refine ay_t_loc (pc := 28) fe_57_28 rfl ?_
      refine ay_t_getR (pc := 29) (w := .ref 1) fe_57_29 at_0 (by decide +kernel) rfl ?_
      cases hk7 : fn_22 D2 with
      | none => rw [hk7] at h; cases h
      | some z =>
        obtain ⟨y5, D6⟩ := z
        rw [hk7] at h
        dsimp only at h
        refine ay_t_call (pc := 32) (w := none) fe_57_32 (ay_args [.ref 56, .ref 1] [] rfl rfl (Nat.le_of_ble_eq_true rfl) (Nat.le_of_ble_eq_true rfl)) (ay_rcvV at_56 rfl) (ev_22 hk7) ?_
        refine ay_t_loc (pc := 35) fe_57_35 rfl ?_
        refine ay_t_getR (pc := 36) (w := .ref 1) fe_57_36 at_0 (by decide +kernel) rfl ?_
        refine ay_t_getR (pc := 39) (w := .ref 8) fe_57_39 at_1 (by decide +kernel) rfl ?_
        refine ay_t_loc (pc := 42) fe_57_42 rfl ?_
        cases hk10 : fn_56 a1 D6 with
        | none => rw [hk10] at h; cases h
        | some z =>
          obtain ⟨y8, D9⟩ := z
          rw [hk10] at h
          dsimp only at h
          refine ay_t_call (pc := 43) (w := some (.int y8)) fe_57_43 (ay_args [.ref 8, .int a1] [] rfl rfl (Nat.le_of_ble_eq_true rfl) (Nat.le_of_ble_eq_true rfl)) (ay_rcvV at_8 rfl) (ev_56 hk10) ?_
          cases h
          exact ay_t_iret fe_57_46 rfl rfl
    · rw [if_neg hc4] at h
      refine ay_t_neg (pc := 11) hc4 fe_57_11 rfl ?_
      cases h
      exact ay_t_thr fe_57_14 (by decide)
def fn_59 (a1 : Int32) (D : am_DD) : Option (Int32 × am_DD) := (match fn_48 a1 0 D with | none => none | some (y1, D2) => (match fn_32 a1 0 (1 - y1) D2 with | none => none | some (y4, D5) => (match fn_48 a1 6 D5 with | none => none | some (y7, D8) => (match fn_32 a1 6 (y7 + 1) D8 with | none => none | some (y10, D11) => (match fn_48 a1 0 D11 with | none => none | some (y13, D14) => some (y13, D14))))))
set_option maxHeartbeats 2000000 in
theorem ev_59 {a1 : Int32} {D : am_DD} {y : Int32} {Z : am_DD} (h : fn_59 a1 D = some (y, Z)) : ay_mo 59 [.ref 321, .int a1] D (.inl (some (.int y))) Z := by
  unfold fn_59 at h
  refine ay_m_of (L := [some (.ref 321), some (.int a1)]) rfl ?_
  refine ay_t_loc (pc := 0) fe_59_0 rfl ?_
  refine ay_t_loc (pc := 1) fe_59_1 rfl ?_
  refine ay_t_stk (pc := 2) (S' := [.int 0, .int a1, .ref 321]) fe_59_2 rfl ?_
  refine ay_t_stk (pc := 3) (S' := [.int 1, .int 0, .int a1, .ref 321]) fe_59_3 rfl ?_
  refine ay_t_loc (pc := 4) fe_59_4 rfl ?_
  refine ay_t_loc (pc := 5) fe_59_5 rfl ?_
  refine ay_t_stk (pc := 6) (S' := [.int 0, .int a1, .ref 321, .int 1, .int 0, .int a1, .ref 321]) fe_59_6 rfl ?_
  cases hk3 : fn_48 a1 0 D with
  | none => rw [hk3] at h; cases h
  | some z =>
    obtain ⟨y1, D2⟩ := z
    rw [hk3] at h
    dsimp only at h
    refine ay_t_call (pc := 7) (w := some (.int y1)) fe_59_7 (ay_args [.ref 321, .int a1, .int 0] [.int 1, .int 0, .int a1, .ref 321] rfl rfl (Nat.le_of_ble_eq_true rfl) (Nat.le_of_ble_eq_true rfl)) (ay_rcvV at_321 rfl) (ev_48 hk3) ?_
    refine ay_t_stk (pc := 10) (S' := [.int (1 - y1), .int 0, .int a1, .ref 321]) fe_59_10 rfl ?_
    cases hk6 : fn_32 a1 0 (1 - y1) D2 with
    | none => rw [hk6] at h; cases h
    | some z =>
      obtain ⟨y4, D5⟩ := z
      rw [hk6] at h
      dsimp only at h
      refine ay_t_call (pc := 11) (w := none) fe_59_11 (ay_args [.ref 321, .int a1, .int 0, .int (1 - y1)] [] rfl rfl (Nat.le_of_ble_eq_true rfl) (Nat.le_of_ble_eq_true rfl)) (ay_rcvV at_321 rfl) (ev_32 hk6) ?_
      refine ay_t_loc (pc := 14) fe_59_14 rfl ?_
      refine ay_t_loc (pc := 15) fe_59_15 rfl ?_
      refine ay_t_stk (pc := 16) (S' := [.int 6, .int a1, .ref 321]) fe_59_16 rfl ?_
      refine ay_t_loc (pc := 18) fe_59_18 rfl ?_
      refine ay_t_loc (pc := 19) fe_59_19 rfl ?_
      refine ay_t_stk (pc := 20) (S' := [.int 6, .int a1, .ref 321, .int 6, .int a1, .ref 321]) fe_59_20 rfl ?_
      cases hk9 : fn_48 a1 6 D5 with
      | none => rw [hk9] at h; cases h
      | some z =>
        obtain ⟨y7, D8⟩ := z
        rw [hk9] at h
        dsimp only at h
        refine ay_t_call (pc := 22) (w := some (.int y7)) fe_59_22 (ay_args [.ref 321, .int a1, .int 6] [.int 6, .int a1, .ref 321] rfl rfl (Nat.le_of_ble_eq_true rfl) (Nat.le_of_ble_eq_true rfl)) (ay_rcvV at_321 rfl) (ev_48 hk9) ?_
        refine ay_t_stk (pc := 25) (S' := [.int 1, .int y7, .int 6, .int a1, .ref 321]) fe_59_25 rfl ?_
        refine ay_t_stk (pc := 26) (S' := [.int (y7 + 1), .int 6, .int a1, .ref 321]) fe_59_26 rfl ?_
        cases hk12 : fn_32 a1 6 (y7 + 1) D8 with
        | none => rw [hk12] at h; cases h
        | some z =>
          obtain ⟨y10, D11⟩ := z
          rw [hk12] at h
          dsimp only at h
          refine ay_t_call (pc := 27) (w := none) fe_59_27 (ay_args [.ref 321, .int a1, .int 6, .int (y7 + 1)] [] rfl rfl (Nat.le_of_ble_eq_true rfl) (Nat.le_of_ble_eq_true rfl)) (ay_rcvV at_321 rfl) (ev_32 hk12) ?_
          refine ay_t_loc (pc := 30) fe_59_30 rfl ?_
          refine ay_t_loc (pc := 31) fe_59_31 rfl ?_
          refine ay_t_stk (pc := 32) (S' := [.int 0, .int a1, .ref 321]) fe_59_32 rfl ?_
          cases hk15 : fn_48 a1 0 D11 with
          | none => rw [hk15] at h; cases h
          | some z =>
            obtain ⟨y13, D14⟩ := z
            rw [hk15] at h
            dsimp only at h
            refine ay_t_call (pc := 33) (w := some (.int y13)) fe_59_33 (ay_args [.ref 321, .int a1, .int 0] [] rfl rfl (Nat.le_of_ble_eq_true rfl) (Nat.le_of_ble_eq_true rfl)) (ay_rcvV at_321 rfl) (ev_48 hk15) ?_
            cases h
            exact ay_t_iret fe_59_36 rfl rfl
def fn_60 (a1 : Int32) (D : am_DD) : Option (Int32 × am_DD) := (match fn_44 a1 D with | none => none | some (y1, D2) => (if y1 = 0 then (match fn_29 1 D2 with | none => none | some (y5, D6) => (if ¬ y5 = 0 then (match fn_31 D6 with | none => none | some (y9, D10) => (match fn_59 a1 D10 with | none => none | some (y12, D13) => some (y12, D13))) else some (0, D6))) else (match fn_29 0 D2 with | none => none | some (y15, D16) => (if ¬ y15 = 0 then (match fn_31 D16 with | none => none | some (y19, D20) => (match fn_59 a1 D20 with | none => none | some (y22, D23) => some (y22, D23))) else some (0, D16)))))
set_option maxHeartbeats 2000000 in
theorem ev_60 {a1 : Int32} {D : am_DD} {y : Int32} {Z : am_DD} (h : fn_60 a1 D = some (y, Z)) : ay_mo 60 [.ref 321, .int a1] D (.inl (some (.int y))) Z := by
  unfold fn_60 at h
  refine ay_m_of (L := [some (.ref 321), some (.int a1)]) rfl ?_
  refine ay_t_loc (pc := 0) fe_60_0 rfl ?_
  refine ay_t_loc (pc := 1) fe_60_1 rfl ?_
  refine ay_t_loc (pc := 2) fe_60_2 rfl ?_
  cases hk3 : fn_44 a1 D with
  | none => rw [hk3] at h; cases h
  | some z =>
    obtain ⟨y1, D2⟩ := z
    rw [hk3] at h
    dsimp only at h
    refine ay_t_call (pc := 3) (w := some (.int y1)) fe_60_3 (ay_args [.ref 321, .int a1] [.ref 321] rfl rfl (Nat.le_of_ble_eq_true rfl) (Nat.le_of_ble_eq_true rfl)) (ay_rcvV at_321 rfl) (ev_44 hk3) ?_
    by_cases hc4 : y1 = 0
    · rw [if_pos hc4] at h
      refine ay_t_pos (pc := 6) hc4 fe_60_6 rfl ?_
      refine ay_t_stk (pc := 13) (S' := [.int 1, .ref 321]) fe_60_13 rfl ?_
      cases hk7 : fn_29 1 D2 with
      | none => rw [hk7] at h; cases h
      | some z =>
        obtain ⟨y5, D6⟩ := z
        rw [hk7] at h
        dsimp only at h
        refine ay_t_call (pc := 14) (w := some (.int y5)) fe_60_14 (ay_args [.ref 321, .int 1] [] rfl rfl (Nat.le_of_ble_eq_true rfl) (Nat.le_of_ble_eq_true rfl)) (ay_rcvV at_321 rfl) (ev_29 hk7) ?_
        by_cases hc8 : ¬ y5 = 0
        · rw [if_pos hc8] at h
          refine ay_t_pos (pc := 17) hc8 fe_60_17 rfl ?_
          refine ay_t_loc (pc := 22) fe_60_22 rfl ?_
          cases hk11 : fn_31 D6 with
          | none => rw [hk11] at h; cases h
          | some z =>
            obtain ⟨y9, D10⟩ := z
            rw [hk11] at h
            dsimp only at h
            refine ay_t_call (pc := 23) (w := none) fe_60_23 (ay_args [.ref 321] [] rfl rfl (Nat.le_of_ble_eq_true rfl) (Nat.le_of_ble_eq_true rfl)) (ay_rcvV at_321 rfl) (ev_31 hk11) ?_
            refine ay_t_loc (pc := 26) fe_60_26 rfl ?_
            refine ay_t_loc (pc := 27) fe_60_27 rfl ?_
            cases hk14 : fn_59 a1 D10 with
            | none => rw [hk14] at h; cases h
            | some z =>
              obtain ⟨y12, D13⟩ := z
              rw [hk14] at h
              dsimp only at h
              refine ay_t_call (pc := 28) (w := some (.int y12)) fe_60_28 (ay_args [.ref 321, .int a1] [] rfl rfl (Nat.le_of_ble_eq_true rfl) (Nat.le_of_ble_eq_true rfl)) (ay_rcvV at_321 rfl) (ev_59 hk14) ?_
              cases h
              exact ay_t_iret fe_60_31 rfl rfl
        · rw [if_neg hc8] at h
          refine ay_t_neg (pc := 17) hc8 fe_60_17 rfl ?_
          refine ay_t_stk (pc := 20) (S' := [.int 0]) fe_60_20 rfl ?_
          cases h
          exact ay_t_iret fe_60_21 rfl rfl
    · rw [if_neg hc4] at h
      refine ay_t_neg (pc := 6) hc4 fe_60_6 rfl ?_
      refine ay_t_stk (pc := 9) (S' := [.int 0, .ref 321]) fe_60_9 rfl ?_
      refine ay_t_br (pc := 10) (pc' := 14) fe_60_10 rfl ?_
      cases hk17 : fn_29 0 D2 with
      | none => rw [hk17] at h; cases h
      | some z =>
        obtain ⟨y15, D16⟩ := z
        rw [hk17] at h
        dsimp only at h
        refine ay_t_call (pc := 14) (w := some (.int y15)) fe_60_14 (ay_args [.ref 321, .int 0] [] rfl rfl (Nat.le_of_ble_eq_true rfl) (Nat.le_of_ble_eq_true rfl)) (ay_rcvV at_321 rfl) (ev_29 hk17) ?_
        by_cases hc18 : ¬ y15 = 0
        · rw [if_pos hc18] at h
          refine ay_t_pos (pc := 17) hc18 fe_60_17 rfl ?_
          refine ay_t_loc (pc := 22) fe_60_22 rfl ?_
          cases hk21 : fn_31 D16 with
          | none => rw [hk21] at h; cases h
          | some z =>
            obtain ⟨y19, D20⟩ := z
            rw [hk21] at h
            dsimp only at h
            refine ay_t_call (pc := 23) (w := none) fe_60_23 (ay_args [.ref 321] [] rfl rfl (Nat.le_of_ble_eq_true rfl) (Nat.le_of_ble_eq_true rfl)) (ay_rcvV at_321 rfl) (ev_31 hk21) ?_
            refine ay_t_loc (pc := 26) fe_60_26 rfl ?_
            refine ay_t_loc (pc := 27) fe_60_27 rfl ?_
            cases hk24 : fn_59 a1 D20 with
            | none => rw [hk24] at h; cases h
            | some z =>
              obtain ⟨y22, D23⟩ := z
              rw [hk24] at h
              dsimp only at h
              refine ay_t_call (pc := 28) (w := some (.int y22)) fe_60_28 (ay_args [.ref 321, .int a1] [] rfl rfl (Nat.le_of_ble_eq_true rfl) (Nat.le_of_ble_eq_true rfl)) (ay_rcvV at_321 rfl) (ev_59 hk24) ?_
              cases h
              exact ay_t_iret fe_60_31 rfl rfl
        · rw [if_neg hc18] at h
          refine ay_t_neg (pc := 17) hc18 fe_60_17 rfl ?_
          refine ay_t_stk (pc := 20) (S' := [.int 0]) fe_60_20 rfl ?_
          cases h
          exact ay_t_iret fe_60_21 rfl rfl
