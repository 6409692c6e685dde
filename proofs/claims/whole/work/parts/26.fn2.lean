/-! methods as functions, with what am_run does (written by wip/whole/gen6.py) -/
def fn_61 (a1 a2 : Int32) (D : am_DD) : Option (Int32 × Nat × am_DD) := (if a1 = 0 then (if a2 < 1 then some (0, 1, D) else (if ¬ a1 = 0 then (if a2 ≤ 40 then (match fn_22 D with | none => none | some (y5, D6) => some ((rw_at (D6 3) 2 a1), 0, (rw_put D6 3 2 a1 a2))) else some (0, 1, D)) else (if a2 ≤ 9 then (match fn_22 D with | none => none | some (y9, D10) => some ((rw_at (D10 3) 2 a1), 0, (rw_put D10 3 2 a1 a2))) else some (0, 1, D)))) else (if a1 = 1 then (if a2 < 1 then some (0, 1, D) else (if ¬ a1 = 0 then (if a2 ≤ 40 then (match fn_22 D with | none => none | some (y16, D17) => some ((rw_at (D17 3) 2 a1), 0, (rw_put D17 3 2 a1 a2))) else some (0, 1, D)) else (if a2 ≤ 9 then (match fn_22 D with | none => none | some (y20, D21) => some ((rw_at (D21 3) 2 a1), 0, (rw_put D21 3 2 a1 a2))) else some (0, 1, D)))) else some (0, 3, D)))
set_option maxHeartbeats 2000000 in
theorem ev_61 {a1 a2 : Int32} {D : am_DD} {y : Int32} {k : Nat} {Z : am_DD} (h : fn_61 a1 a2 D = some (y, k, Z)) : ay_mo 61 [.ref 0, .int a1, .int a2] D (ay_oc y k) Z := by
  unfold fn_61 at h
  refine ay_m_of (L := [some (.ref 0), some (.int a1), some (.int a2)]) rfl ?_
  refine ay_t_loc (pc := 0) fe_61_0 rfl ?_
  by_cases hc1 : a1 = 0
  · rw [if_pos hc1] at h
    refine ay_t_pos (pc := 1) hc1 fe_61_1 rfl ?_
    refine ay_t_loc (pc := 19) fe_61_19 rfl ?_
    refine ay_t_stk (pc := 20) (S' := [.int 1, .int a2]) fe_61_20 rfl ?_
    by_cases hc2 : a2 < 1
    · rw [if_pos hc2] at h
      refine ay_t_pos (pc := 21) hc2 fe_61_21 rfl ?_
      cases h
      exact ay_t_thr fe_61_39 (by decide)
    · rw [if_neg hc2] at h
      refine ay_t_neg (pc := 21) hc2 fe_61_21 rfl ?_
      refine ay_t_loc (pc := 24) fe_61_24 rfl ?_
      refine ay_t_loc (pc := 25) fe_61_25 rfl ?_
      by_cases hc3 : ¬ a1 = 0
      · rw [if_pos hc3] at h
        refine ay_t_pos (pc := 26) hc3 fe_61_26 rfl ?_
        refine ay_t_stk (pc := 34) (S' := [.int 40, .int a2]) fe_61_34 rfl ?_
        by_cases hc4 : a2 ≤ 40
        · rw [if_pos hc4] at h
          refine ay_t_pos (pc := 36) hc4 fe_61_36 rfl ?_
          refine ay_t_loc (pc := 49) fe_61_49 rfl ?_
          refine ay_t_getR (pc := 50) (w := .ref 56) fe_61_50 at_0 (by decide +kernel) rfl ?_
          refine ay_t_loc (pc := 53) fe_61_53 rfl ?_
          refine ay_t_getR (pc := 54) (w := .ref 1) fe_61_54 at_0 (by decide +kernel) rfl ?_
          cases hk7 : fn_22 D with
          | none => rw [hk7] at h; cases h
          | some z =>
            obtain ⟨y5, D6⟩ := z
            rw [hk7] at h
            dsimp only at h
            refine ay_t_call (pc := 57) (w := none) fe_61_57 (ay_args [.ref 56, .ref 1] [] rfl rfl (Nat.le_of_ble_eq_true rfl) (Nat.le_of_ble_eq_true rfl)) (ay_rcvV at_56 rfl) (ev_22 hk7) ?_
            refine ay_t_loc (pc := 60) fe_61_60 rfl ?_
            refine ay_t_getR (pc := 61) (w := .ref 1) fe_61_61 at_0 (by decide +kernel) rfl ?_
            refine ay_t_getR (pc := 64) (w := .ref 2) fe_61_64 at_1 (by decide +kernel) rfl ?_
            refine ay_t_loc (pc := 67) fe_61_67 rfl ?_
            refine ay_t_loc (pc := 68) fe_61_68 rfl ?_
            refine ay_t_call (pc := 69) (w := some (.int (rw_at (D6 3) 2 a1))) fe_61_69 (ay_args [.ref 2, .int a1, .int a2] [] rfl rfl (Nat.le_of_ble_eq_true rfl) (Nat.le_of_ble_eq_true rfl)) (ay_rcvV at_2 rfl) (mt_exch at_2 at_3 (by decide)) ?_
            cases h
            exact ay_t_iret fe_61_72 rfl rfl
        · rw [if_neg hc4] at h
          refine ay_t_neg (pc := 36) hc4 fe_61_36 rfl ?_
          cases h
          exact ay_t_thr fe_61_39 (by decide)
      · rw [if_neg hc3] at h
        refine ay_t_neg (pc := 26) hc3 fe_61_26 rfl ?_
        refine ay_t_stk (pc := 29) (S' := [.int 9, .int a2]) fe_61_29 rfl ?_
        refine ay_t_br (pc := 31) (pc' := 36) fe_61_31 rfl ?_
        by_cases hc8 : a2 ≤ 9
        · rw [if_pos hc8] at h
          refine ay_t_pos (pc := 36) hc8 fe_61_36 rfl ?_
          refine ay_t_loc (pc := 49) fe_61_49 rfl ?_
          refine ay_t_getR (pc := 50) (w := .ref 56) fe_61_50 at_0 (by decide +kernel) rfl ?_
          refine ay_t_loc (pc := 53) fe_61_53 rfl ?_
          refine ay_t_getR (pc := 54) (w := .ref 1) fe_61_54 at_0 (by decide +kernel) rfl ?_
          cases hk11 : fn_22 D with
          | none => rw [hk11] at h; cases h
          | some z =>
            obtain ⟨y9, D10⟩ := z
            rw [hk11] at h
            dsimp only at h
            refine ay_t_call (pc := 57) (w := none) fe_61_57 (ay_args [.ref 56, .ref 1] [] rfl rfl (Nat.le_of_ble_eq_true rfl) (Nat.le_of_ble_eq_true rfl)) (ay_rcvV at_56 rfl) (ev_22 hk11) ?_
            refine ay_t_loc (pc := 60) fe_61_60 rfl ?_
            refine ay_t_getR (pc := 61) (w := .ref 1) fe_61_61 at_0 (by decide +kernel) rfl ?_
            refine ay_t_getR (pc := 64) (w := .ref 2) fe_61_64 at_1 (by decide +kernel) rfl ?_
            refine ay_t_loc (pc := 67) fe_61_67 rfl ?_
            refine ay_t_loc (pc := 68) fe_61_68 rfl ?_
            refine ay_t_call (pc := 69) (w := some (.int (rw_at (D10 3) 2 a1))) fe_61_69 (ay_args [.ref 2, .int a1, .int a2] [] rfl rfl (Nat.le_of_ble_eq_true rfl) (Nat.le_of_ble_eq_true rfl)) (ay_rcvV at_2 rfl) (mt_exch at_2 at_3 (by decide)) ?_
            cases h
            exact ay_t_iret fe_61_72 rfl rfl
        · rw [if_neg hc8] at h
          refine ay_t_neg (pc := 36) hc8 fe_61_36 rfl ?_
          cases h
          exact ay_t_thr fe_61_39 (by decide)
  · rw [if_neg hc1] at h
    refine ay_t_neg (pc := 1) hc1 fe_61_1 rfl ?_
    refine ay_t_loc (pc := 4) fe_61_4 rfl ?_
    refine ay_t_stk (pc := 5) (S' := [.int 1, .int a1]) fe_61_5 rfl ?_
    by_cases hc12 : a1 = 1
    · rw [if_pos hc12] at h
      refine ay_t_pos (pc := 6) hc12 fe_61_6 rfl ?_
      refine ay_t_loc (pc := 19) fe_61_19 rfl ?_
      refine ay_t_stk (pc := 20) (S' := [.int 1, .int a2]) fe_61_20 rfl ?_
      by_cases hc13 : a2 < 1
      · rw [if_pos hc13] at h
        refine ay_t_pos (pc := 21) hc13 fe_61_21 rfl ?_
        cases h
        exact ay_t_thr fe_61_39 (by decide)
      · rw [if_neg hc13] at h
        refine ay_t_neg (pc := 21) hc13 fe_61_21 rfl ?_
        refine ay_t_loc (pc := 24) fe_61_24 rfl ?_
        refine ay_t_loc (pc := 25) fe_61_25 rfl ?_
        by_cases hc14 : ¬ a1 = 0
        · rw [if_pos hc14] at h
          refine ay_t_pos (pc := 26) hc14 fe_61_26 rfl ?_
          refine ay_t_stk (pc := 34) (S' := [.int 40, .int a2]) fe_61_34 rfl ?_
          by_cases hc15 : a2 ≤ 40
          · rw [if_pos hc15] at h
            refine ay_t_pos (pc := 36) hc15 fe_61_36 rfl ?_
            refine ay_t_loc (pc := 49) fe_61_49 rfl ?_
            refine ay_t_getR (pc := 50) (w := .ref 56) fe_61_50 at_0 (by decide +kernel) rfl ?_
            refine ay_t_loc (pc := 53) fe_61_53 rfl ?_
            refine ay_t_getR (pc := 54) (w := .ref 1) fe_61_54 at_0 (by decide +kernel) rfl ?_
            cases hk18 : fn_22 D with
            | none => rw [hk18] at h; cases h
            | some z =>
              obtain ⟨y16, D17⟩ := z
              rw [hk18] at h
              dsimp only at h
              refine ay_t_call (pc := 57) (w := none) fe_61_57 (ay_args [.ref 56, .ref 1] [] rfl rfl (Nat.le_of_ble_eq_true rfl) (Nat.le_of_ble_eq_true rfl)) (ay_rcvV at_56 rfl) (ev_22 hk18) ?_
              refine ay_t_loc (pc := 60) fe_61_60 rfl ?_
              refine ay_t_getR (pc := 61) (w := .ref 1) fe_61_61 at_0 (by decide +kernel) rfl ?_
              refine ay_t_getR (pc := 64) (w := .ref 2) fe_61_64 at_1 (by decide +kernel) rfl ?_
              refine ay_t_loc (pc := 67) fe_61_67 rfl ?_
              refine ay_t_loc (pc := 68) fe_61_68 rfl ?_
              refine ay_t_call (pc := 69) (w := some (.int (rw_at (D17 3) 2 a1))) fe_61_69 (ay_args [.ref 2, .int a1, .int a2] [] rfl rfl (Nat.le_of_ble_eq_true rfl) (Nat.le_of_ble_eq_true rfl)) (ay_rcvV at_2 rfl) (mt_exch at_2 at_3 (by decide)) ?_
              cases h
              exact ay_t_iret fe_61_72 rfl rfl
          · rw [if_neg hc15] at h
            refine ay_t_neg (pc := 36) hc15 fe_61_36 rfl ?_
            cases h
            exact ay_t_thr fe_61_39 (by decide)
        · rw [if_neg hc14] at h
          refine ay_t_neg (pc := 26) hc14 fe_61_26 rfl ?_
          refine ay_t_stk (pc := 29) (S' := [.int 9, .int a2]) fe_61_29 rfl ?_
          refine ay_t_br (pc := 31) (pc' := 36) fe_61_31 rfl ?_
          by_cases hc19 : a2 ≤ 9
          · rw [if_pos hc19] at h
            refine ay_t_pos (pc := 36) hc19 fe_61_36 rfl ?_
            refine ay_t_loc (pc := 49) fe_61_49 rfl ?_
            refine ay_t_getR (pc := 50) (w := .ref 56) fe_61_50 at_0 (by decide +kernel) rfl ?_
            refine ay_t_loc (pc := 53) fe_61_53 rfl ?_
            refine ay_t_getR (pc := 54) (w := .ref 1) fe_61_54 at_0 (by decide +kernel) rfl ?_
            cases hk22 : fn_22 D with
            | none => rw [hk22] at h; cases h
            | some z =>
              obtain ⟨y20, D21⟩ := z
              rw [hk22] at h
              dsimp only at h
              refine ay_t_call (pc := 57) (w := none) fe_61_57 (ay_args [.ref 56, .ref 1] [] rfl rfl (Nat.le_of_ble_eq_true rfl) (Nat.le_of_ble_eq_true rfl)) (ay_rcvV at_56 rfl) (ev_22 hk22) ?_
              refine ay_t_loc (pc := 60) fe_61_60 rfl ?_
              refine ay_t_getR (pc := 61) (w := .ref 1) fe_61_61 at_0 (by decide +kernel) rfl ?_
              refine ay_t_getR (pc := 64) (w := .ref 2) fe_61_64 at_1 (by decide +kernel) rfl ?_
              refine ay_t_loc (pc := 67) fe_61_67 rfl ?_
              refine ay_t_loc (pc := 68) fe_61_68 rfl ?_
              refine ay_t_call (pc := 69) (w := some (.int (rw_at (D21 3) 2 a1))) fe_61_69 (ay_args [.ref 2, .int a1, .int a2] [] rfl rfl (Nat.le_of_ble_eq_true rfl) (Nat.le_of_ble_eq_true rfl)) (ay_rcvV at_2 rfl) (mt_exch at_2 at_3 (by decide)) ?_
              cases h
              exact ay_t_iret fe_61_72 rfl rfl
          · rw [if_neg hc19] at h
            refine ay_t_neg (pc := 36) hc19 fe_61_36 rfl ?_
            cases h
            exact ay_t_thr fe_61_39 (by decide)
    · rw [if_neg hc12] at h
      refine ay_t_neg (pc := 6) hc12 fe_61_6 rfl ?_
      cases h
      exact ay_t_thr fe_61_9 (by decide)
def fn_63 (a1 a2 : Int32) (D : am_DD) : Option (Int32 × am_DD) := (match fn_26 a1 0 1 D with | none => none | some (y1, D2) => (if ¬ y1 = 0 then (if ¬ a1 = 0 then (match fn_26 a2 1 40 D2 with | none => none | some (y6, D7) => (if ¬ y6 = 0 then (match fn_29 0 D7 with | none => none | some (y10, D11) => (if ¬ y10 = 0 then (match fn_31 D11 with | none => none | some (y14, D15) => (if (5 + a1) < 0 ∨ 405 ≤ (5 + a1).toNatClampNeg then none else (if (5 + a1) < 0 ∨ 405 ≤ (5 + a1).toNatClampNeg then none else some ((D15 322 (5 + a1).toNatClampNeg), (am_upd D15 322 (5 + a1).toNatClampNeg a2))))) else some (0, D11))) else (match fn_29 2 D7 with | none => none | some (y19, D20) => (if ¬ y19 = 0 then (match fn_31 D20 with | none => none | some (y23, D24) => (if (5 + a1) < 0 ∨ 405 ≤ (5 + a1).toNatClampNeg then none else (if (5 + a1) < 0 ∨ 405 ≤ (5 + a1).toNatClampNeg then none else some ((D24 322 (5 + a1).toNatClampNeg), (am_upd D24 322 (5 + a1).toNatClampNeg a2))))) else some (0, D20))))) else (match fn_26 a2 1 9 D2 with | none => none | some (y28, D29) => (if ¬ y28 = 0 then (match fn_29 0 D29 with | none => none | some (y32, D33) => (if ¬ y32 = 0 then (match fn_31 D33 with | none => none | some (y36, D37) => (if (5 + a1) < 0 ∨ 405 ≤ (5 + a1).toNatClampNeg then none else (if (5 + a1) < 0 ∨ 405 ≤ (5 + a1).toNatClampNeg then none else some ((D37 322 (5 + a1).toNatClampNeg), (am_upd D37 322 (5 + a1).toNatClampNeg a2))))) else some (0, D33))) else (match fn_29 2 D29 with | none => none | some (y41, D42) => (if ¬ y41 = 0 then (match fn_31 D42 with | none => none | some (y45, D46) => (if (5 + a1) < 0 ∨ 405 ≤ (5 + a1).toNatClampNeg then none else (if (5 + a1) < 0 ∨ 405 ≤ (5 + a1).toNatClampNeg then none else some ((D46 322 (5 + a1).toNatClampNeg), (am_upd D46 322 (5 + a1).toNatClampNeg a2))))) else some (0, D42)))))) else (match fn_29 1 D2 with | none => none | some (y50, D51) => (if ¬ y50 = 0 then (match fn_31 D51 with | none => none | some (y54, D55) => (if (5 + a1) < 0 ∨ 405 ≤ (5 + a1).toNatClampNeg then none else (if (5 + a1) < 0 ∨ 405 ≤ (5 + a1).toNatClampNeg then none else some ((D55 322 (5 + a1).toNatClampNeg), (am_upd D55 322 (5 + a1).toNatClampNeg a2))))) else some (0, D51)))))
set_option maxHeartbeats 2000000 in
theorem ev_63 {a1 a2 : Int32} {D : am_DD} {y : Int32} {Z : am_DD} (h : fn_63 a1 a2 D = some (y, Z)) : ay_mo 63 [.ref 321, .int a1, .int a2] D (.inl (some (.int y))) Z := by
  unfold fn_63 at h
  refine ay_m_of (L := [some (.ref 321), some (.int a1), some (.int a2), none]) rfl ?_
  refine ay_t_loc (pc := 0) fe_63_0 rfl ?_
  refine ay_t_loc (pc := 1) fe_63_1 rfl ?_
  refine ay_t_stk (pc := 2) (S' := [.int 0, .int a1, .ref 321]) fe_63_2 rfl ?_
  refine ay_t_stk (pc := 3) (S' := [.int 1, .int 0, .int a1, .ref 321]) fe_63_3 rfl ?_
  cases hk3 : fn_26 a1 0 1 D with
  | none => rw [hk3] at h; cases h
  | some z =>
    obtain ⟨y1, D2⟩ := z
    rw [hk3] at h
    dsimp only at h
    refine ay_t_call (pc := 4) (w := some (.int y1)) fe_63_4 (ay_args [.int a1, .int 0, .int 1] [.ref 321] rfl rfl (Nat.le_of_ble_eq_true rfl) (Nat.le_of_ble_eq_true rfl)) rfl (ev_26 hk3) ?_
    by_cases hc4 : ¬ y1 = 0
    · rw [if_pos hc4] at h
      refine ay_t_pos (pc := 7) hc4 fe_63_7 rfl ?_
      refine ay_t_loc (pc := 14) fe_63_14 rfl ?_
      refine ay_t_stk (pc := 15) (S' := [.int 1, .int a2, .ref 321]) fe_63_15 rfl ?_
      refine ay_t_loc (pc := 16) fe_63_16 rfl ?_
      by_cases hc5 : ¬ a1 = 0
      · rw [if_pos hc5] at h
        refine ay_t_pos (pc := 17) hc5 fe_63_17 rfl ?_
        refine ay_t_stk (pc := 25) (S' := [.int 40, .int 1, .int a2, .ref 321]) fe_63_25 rfl ?_
        cases hk8 : fn_26 a2 1 40 D2 with
        | none => rw [hk8] at h; cases h
        | some z =>
          obtain ⟨y6, D7⟩ := z
          rw [hk8] at h
          dsimp only at h
          refine ay_t_call (pc := 27) (w := some (.int y6)) fe_63_27 (ay_args [.int a2, .int 1, .int 40] [.ref 321] rfl rfl (Nat.le_of_ble_eq_true rfl) (Nat.le_of_ble_eq_true rfl)) rfl (ev_26 hk8) ?_
          by_cases hc9 : ¬ y6 = 0
          · rw [if_pos hc9] at h
            refine ay_t_pos (pc := 30) hc9 fe_63_30 rfl ?_
            refine ay_t_stk (pc := 37) (S' := [.int 0, .ref 321]) fe_63_37 rfl ?_
            cases hk12 : fn_29 0 D7 with
            | none => rw [hk12] at h; cases h
            | some z =>
              obtain ⟨y10, D11⟩ := z
              rw [hk12] at h
              dsimp only at h
              refine ay_t_call (pc := 38) (w := some (.int y10)) fe_63_38 (ay_args [.ref 321, .int 0] [] rfl rfl (Nat.le_of_ble_eq_true rfl) (Nat.le_of_ble_eq_true rfl)) (ay_rcvV at_321 rfl) (ev_29 hk12) ?_
              by_cases hc13 : ¬ y10 = 0
              · rw [if_pos hc13] at h
                refine ay_t_pos (pc := 41) hc13 fe_63_41 rfl ?_
                refine ay_t_loc (pc := 46) fe_63_46 rfl ?_
                cases hk16 : fn_31 D11 with
                | none => rw [hk16] at h; cases h
                | some z =>
                  obtain ⟨y14, D15⟩ := z
                  rw [hk16] at h
                  dsimp only at h
                  refine ay_t_call (pc := 47) (w := none) fe_63_47 (ay_args [.ref 321] [] rfl rfl (Nat.le_of_ble_eq_true rfl) (Nat.le_of_ble_eq_true rfl)) (ay_rcvV at_321 rfl) (ev_31 hk16) ?_
                  refine ay_t_loc (pc := 50) fe_63_50 rfl ?_
                  refine ay_t_getR (pc := 51) (w := .ref 322) fe_63_51 at_321 (by decide +kernel) rfl ?_
                  refine ay_t_stk (pc := 54) (S' := [.int 5, .ref 322]) fe_63_54 rfl ?_
                  refine ay_t_loc (pc := 55) fe_63_55 rfl ?_
                  refine ay_t_stk (pc := 56) (S' := [.int (5 + a1), .ref 322]) fe_63_56 rfl ?_
                  by_cases hb17 : (5 + a1) < 0 ∨ 405 ≤ (5 + a1).toNatClampNeg
                  · rw [if_pos hb17] at h; cases h
                  rw [if_neg hb17] at h
                  refine ay_t_iaload (pc := 57) fe_63_57 at_322 (by decide) hb17 ?_
                  refine ay_t_loc (pc := 58) (L' := [some (.ref 321), some (.int a1), some (.int a2), some (.int (D15 322 (5 + a1).toNatClampNeg))]) fe_63_58 rfl ?_
                  refine ay_t_loc (pc := 59) fe_63_59 rfl ?_
                  refine ay_t_getR (pc := 60) (w := .ref 322) fe_63_60 at_321 (by decide +kernel) rfl ?_
                  refine ay_t_stk (pc := 63) (S' := [.int 5, .ref 322]) fe_63_63 rfl ?_
                  refine ay_t_loc (pc := 64) fe_63_64 rfl ?_
                  refine ay_t_stk (pc := 65) (S' := [.int (5 + a1), .ref 322]) fe_63_65 rfl ?_
                  refine ay_t_loc (pc := 66) fe_63_66 rfl ?_
                  by_cases hb18 : (5 + a1) < 0 ∨ 405 ≤ (5 + a1).toNatClampNeg
                  · rw [if_pos hb18] at h; cases h
                  rw [if_neg hb18] at h
                  refine ay_t_iastore (pc := 67) fe_63_67 at_322 hb18 ?_
                  refine ay_t_loc (pc := 68) fe_63_68 rfl ?_
                  cases h
                  exact ay_t_iret fe_63_69 rfl rfl
              · rw [if_neg hc13] at h
                refine ay_t_neg (pc := 41) hc13 fe_63_41 rfl ?_
                refine ay_t_stk (pc := 44) (S' := [.int 0]) fe_63_44 rfl ?_
                cases h
                exact ay_t_iret fe_63_45 rfl rfl
          · rw [if_neg hc9] at h
            refine ay_t_neg (pc := 30) hc9 fe_63_30 rfl ?_
            refine ay_t_stk (pc := 33) (S' := [.int 2, .ref 321]) fe_63_33 rfl ?_
            refine ay_t_br (pc := 34) (pc' := 38) fe_63_34 rfl ?_
            cases hk21 : fn_29 2 D7 with
            | none => rw [hk21] at h; cases h
            | some z =>
              obtain ⟨y19, D20⟩ := z
              rw [hk21] at h
              dsimp only at h
              refine ay_t_call (pc := 38) (w := some (.int y19)) fe_63_38 (ay_args [.ref 321, .int 2] [] rfl rfl (Nat.le_of_ble_eq_true rfl) (Nat.le_of_ble_eq_true rfl)) (ay_rcvV at_321 rfl) (ev_29 hk21) ?_
              by_cases hc22 : ¬ y19 = 0
              · rw [if_pos hc22] at h
                refine ay_t_pos (pc := 41) hc22 fe_63_41 rfl ?_
                refine ay_t_loc (pc := 46) fe_63_46 rfl ?_
                cases hk25 : fn_31 D20 with
                | none => rw [hk25] at h; cases h
                | some z =>
                  obtain ⟨y23, D24⟩ := z
                  rw [hk25] at h
                  dsimp only at h
                  refine ay_t_call (pc := 47) (w := none) fe_63_47 (ay_args [.ref 321] [] rfl rfl (Nat.le_of_ble_eq_true rfl) (Nat.le_of_ble_eq_true rfl)) (ay_rcvV at_321 rfl) (ev_31 hk25) ?_
                  refine ay_t_loc (pc := 50) fe_63_50 rfl ?_
                  refine ay_t_getR (pc := 51) (w := .ref 322) fe_63_51 at_321 (by decide +kernel) rfl ?_
                  refine ay_t_stk (pc := 54) (S' := [.int 5, .ref 322]) fe_63_54 rfl ?_
                  refine ay_t_loc (pc := 55) fe_63_55 rfl ?_
                  refine ay_t_stk (pc := 56) (S' := [.int (5 + a1), .ref 322]) fe_63_56 rfl ?_
                  by_cases hb26 : (5 + a1) < 0 ∨ 405 ≤ (5 + a1).toNatClampNeg
                  · rw [if_pos hb26] at h; cases h
                  rw [if_neg hb26] at h
                  refine ay_t_iaload (pc := 57) fe_63_57 at_322 (by decide) hb26 ?_
                  refine ay_t_loc (pc := 58) (L' := [some (.ref 321), some (.int a1), some (.int a2), some (.int (D24 322 (5 + a1).toNatClampNeg))]) fe_63_58 rfl ?_
                  refine ay_t_loc (pc := 59) fe_63_59 rfl ?_
                  refine ay_t_getR (pc := 60) (w := .ref 322) fe_63_60 at_321 (by decide +kernel) rfl ?_
                  refine ay_t_stk (pc := 63) (S' := [.int 5, .ref 322]) fe_63_63 rfl ?_
                  refine ay_t_loc (pc := 64) fe_63_64 rfl ?_
                  refine ay_t_stk (pc := 65) (S' := [.int (5 + a1), .ref 322]) fe_63_65 rfl ?_
                  refine ay_t_loc (pc := 66) fe_63_66 rfl ?_
                  by_cases hb27 : (5 + a1) < 0 ∨ 405 ≤ (5 + a1).toNatClampNeg
                  · rw [if_pos hb27] at h; cases h
                  rw [if_neg hb27] at h
                  refine ay_t_iastore (pc := 67) fe_63_67 at_322 hb27 ?_
                  refine ay_t_loc (pc := 68) fe_63_68 rfl ?_
                  cases h
                  exact ay_t_iret fe_63_69 rfl rfl
              · rw [if_neg hc22] at h
                refine ay_t_neg (pc := 41) hc22 fe_63_41 rfl ?_
                refine ay_t_stk (pc := 44) (S' := [.int 0]) fe_63_44 rfl ?_
                cases h
                exact ay_t_iret fe_63_45 rfl rfl
      · rw [if_neg hc5] at h
        refine ay_t_neg (pc := 17) hc5 fe_63_17 rfl ?_
        refine ay_t_stk (pc := 20) (S' := [.int 9, .int 1, .int a2, .ref 321]) fe_63_20 rfl ?_
        refine ay_t_br (pc := 22) (pc' := 27) fe_63_22 rfl ?_
        cases hk30 : fn_26 a2 1 9 D2 with
        | none => rw [hk30] at h; cases h
        | some z =>
          obtain ⟨y28, D29⟩ := z
          rw [hk30] at h
          dsimp only at h
          refine ay_t_call (pc := 27) (w := some (.int y28)) fe_63_27 (ay_args [.int a2, .int 1, .int 9] [.ref 321] rfl rfl (Nat.le_of_ble_eq_true rfl) (Nat.le_of_ble_eq_true rfl)) rfl (ev_26 hk30) ?_
          by_cases hc31 : ¬ y28 = 0
          · rw [if_pos hc31] at h
            refine ay_t_pos (pc := 30) hc31 fe_63_30 rfl ?_
            refine ay_t_stk (pc := 37) (S' := [.int 0, .ref 321]) fe_63_37 rfl ?_
            cases hk34 : fn_29 0 D29 with
            | none => rw [hk34] at h; cases h
            | some z =>
              obtain ⟨y32, D33⟩ := z
              rw [hk34] at h
              dsimp only at h
              refine ay_t_call (pc := 38) (w := some (.int y32)) fe_63_38 (ay_args [.ref 321, .int 0] [] rfl rfl (Nat.le_of_ble_eq_true rfl) (Nat.le_of_ble_eq_true rfl)) (ay_rcvV at_321 rfl) (ev_29 hk34) ?_
              by_cases hc35 : ¬ y32 = 0
              · rw [if_pos hc35] at h
                refine ay_t_pos (pc := 41) hc35 fe_63_41 rfl ?_
                refine ay_t_loc (pc := 46) fe_63_46 rfl ?_
                cases hk38 : fn_31 D33 with
                | none => rw [hk38] at h; cases h
                | some z =>
                  obtain ⟨y36, D37⟩ := z
                  rw [hk38] at h
                  dsimp only at h
                  refine ay_t_call (pc := 47) (w := none) fe_63_47 (ay_args [.ref 321] [] rfl rfl (Nat.le_of_ble_eq_true rfl) (Nat.le_of_ble_eq_true rfl)) (ay_rcvV at_321 rfl) (ev_31 hk38) ?_
                  refine ay_t_loc (pc := 50) fe_63_50 rfl ?_
                  refine ay_t_getR (pc := 51) (w := .ref 322) fe_63_51 at_321 (by decide +kernel) rfl ?_
                  refine ay_t_stk (pc := 54) (S' := [.int 5, .ref 322]) fe_63_54 rfl ?_
                  refine ay_t_loc (pc := 55) fe_63_55 rfl ?_
                  refine ay_t_stk (pc := 56) (S' := [.int (5 + a1), .ref 322]) fe_63_56 rfl ?_
                  by_cases hb39 : (5 + a1) < 0 ∨ 405 ≤ (5 + a1).toNatClampNeg
                  · rw [if_pos hb39] at h; cases h
                  rw [if_neg hb39] at h
                  refine ay_t_iaload (pc := 57) fe_63_57 at_322 (by decide) hb39 ?_
                  refine ay_t_loc (pc := 58) (L' := [some (.ref 321), some (.int a1), some (.int a2), some (.int (D37 322 (5 + a1).toNatClampNeg))]) fe_63_58 rfl ?_
                  refine ay_t_loc (pc := 59) fe_63_59 rfl ?_
                  refine ay_t_getR (pc := 60) (w := .ref 322) fe_63_60 at_321 (by decide +kernel) rfl ?_
                  refine ay_t_stk (pc := 63) (S' := [.int 5, .ref 322]) fe_63_63 rfl ?_
                  refine ay_t_loc (pc := 64) fe_63_64 rfl ?_
                  refine ay_t_stk (pc := 65) (S' := [.int (5 + a1), .ref 322]) fe_63_65 rfl ?_
                  refine ay_t_loc (pc := 66) fe_63_66 rfl ?_
                  by_cases hb40 : (5 + a1) < 0 ∨ 405 ≤ (5 + a1).toNatClampNeg
                  · rw [if_pos hb40] at h; cases h
                  rw [if_neg hb40] at h
                  refine ay_t_iastore (pc := 67) fe_63_67 at_322 hb40 ?_
                  refine ay_t_loc (pc := 68) fe_63_68 rfl ?_
                  cases h
                  exact ay_t_iret fe_63_69 rfl rfl
              · rw [if_neg hc35] at h
                refine ay_t_neg (pc := 41) hc35 fe_63_41 rfl ?_
                refine ay_t_stk (pc := 44) (S' := [.int 0]) fe_63_44 rfl ?_
                cases h
                exact ay_t_iret fe_63_45 rfl rfl
          · rw [if_neg hc31] at h
            refine ay_t_neg (pc := 30) hc31 fe_63_30 rfl ?_
            refine ay_t_stk (pc := 33) (S' := [.int 2, .ref 321]) fe_63_33 rfl ?_
            refine ay_t_br (pc := 34) (pc' := 38) fe_63_34 rfl ?_
            cases hk43 : fn_29 2 D29 with
            | none => rw [hk43] at h; cases h
            | some z =>
              obtain ⟨y41, D42⟩ := z
              rw [hk43] at h
              dsimp only at h
              refine ay_t_call (pc := 38) (w := some (.int y41)) fe_63_38 (ay_args [.ref 321, .int 2] [] rfl rfl (Nat.le_of_ble_eq_true rfl) (Nat.le_of_ble_eq_true rfl)) (ay_rcvV at_321 rfl) (ev_29 hk43) ?_
              by_cases hc44 : ¬ y41 = 0
              · rw [if_pos hc44] at h
                refine ay_t_pos (pc := 41) hc44 fe_63_41 rfl ?_
                refine ay_t_loc (pc := 46) fe_63_46 rfl ?_
                cases hk47 : fn_31 D42 with
                | none => rw [hk47] at h; cases h
                | some z =>
                  obtain ⟨y45, D46⟩ := z
                  rw [hk47] at h
                  dsimp only at h
                  refine ay_t_call (pc := 47) (w := none) fe_63_47 (ay_args [.ref 321] [] rfl rfl (Nat.le_of_ble_eq_true rfl) (Nat.le_of_ble_eq_true rfl)) (ay_rcvV at_321 rfl) (ev_31 hk47) ?_
                  refine ay_t_loc (pc := 50) fe_63_50 rfl ?_
                  refine ay_t_getR (pc := 51) (w := .ref 322) fe_63_51 at_321 (by decide +kernel) rfl ?_
                  refine ay_t_stk (pc := 54) (S' := [.int 5, .ref 322]) fe_63_54 rfl ?_
                  refine ay_t_loc (pc := 55) fe_63_55 rfl ?_
                  refine ay_t_stk (pc := 56) (S' := [.int (5 + a1), .ref 322]) fe_63_56 rfl ?_
                  by_cases hb48 : (5 + a1) < 0 ∨ 405 ≤ (5 + a1).toNatClampNeg
                  · rw [if_pos hb48] at h; cases h
                  rw [if_neg hb48] at h
                  refine ay_t_iaload (pc := 57) fe_63_57 at_322 (by decide) hb48 ?_
                  refine ay_t_loc (pc := 58) (L' := [some (.ref 321), some (.int a1), some (.int a2), some (.int (D46 322 (5 + a1).toNatClampNeg))]) fe_63_58 rfl ?_
                  refine ay_t_loc (pc := 59) fe_63_59 rfl ?_
                  refine ay_t_getR (pc := 60) (w := .ref 322) fe_63_60 at_321 (by decide +kernel) rfl ?_
                  refine ay_t_stk (pc := 63) (S' := [.int 5, .ref 322]) fe_63_63 rfl ?_
                  refine ay_t_loc (pc := 64) fe_63_64 rfl ?_
                  refine ay_t_stk (pc := 65) (S' := [.int (5 + a1), .ref 322]) fe_63_65 rfl ?_
                  refine ay_t_loc (pc := 66) fe_63_66 rfl ?_
                  by_cases hb49 : (5 + a1) < 0 ∨ 405 ≤ (5 + a1).toNatClampNeg
                  · rw [if_pos hb49] at h; cases h
                  rw [if_neg hb49] at h
                  refine ay_t_iastore (pc := 67) fe_63_67 at_322 hb49 ?_
                  refine ay_t_loc (pc := 68) fe_63_68 rfl ?_
                  cases h
                  exact ay_t_iret fe_63_69 rfl rfl
              · rw [if_neg hc44] at h
                refine ay_t_neg (pc := 41) hc44 fe_63_41 rfl ?_
                refine ay_t_stk (pc := 44) (S' := [.int 0]) fe_63_44 rfl ?_
                cases h
                exact ay_t_iret fe_63_45 rfl rfl
    · rw [if_neg hc4] at h
      refine ay_t_neg (pc := 7) hc4 fe_63_7 rfl ?_
      refine ay_t_stk (pc := 10) (S' := [.int 1, .ref 321]) fe_63_10 rfl ?_
      refine ay_t_br (pc := 11) (pc' := 38) fe_63_11 rfl ?_
      cases hk52 : fn_29 1 D2 with
      | none => rw [hk52] at h; cases h
      | some z =>
        obtain ⟨y50, D51⟩ := z
        rw [hk52] at h
        dsimp only at h
        refine ay_t_call (pc := 38) (w := some (.int y50)) fe_63_38 (ay_args [.ref 321, .int 1] [] rfl rfl (Nat.le_of_ble_eq_true rfl) (Nat.le_of_ble_eq_true rfl)) (ay_rcvV at_321 rfl) (ev_29 hk52) ?_
        by_cases hc53 : ¬ y50 = 0
        · rw [if_pos hc53] at h
          refine ay_t_pos (pc := 41) hc53 fe_63_41 rfl ?_
          refine ay_t_loc (pc := 46) fe_63_46 rfl ?_
          cases hk56 : fn_31 D51 with
          | none => rw [hk56] at h; cases h
          | some z =>
            obtain ⟨y54, D55⟩ := z
            rw [hk56] at h
            dsimp only at h
            refine ay_t_call (pc := 47) (w := none) fe_63_47 (ay_args [.ref 321] [] rfl rfl (Nat.le_of_ble_eq_true rfl) (Nat.le_of_ble_eq_true rfl)) (ay_rcvV at_321 rfl) (ev_31 hk56) ?_
            refine ay_t_loc (pc := 50) fe_63_50 rfl ?_
            refine ay_t_getR (pc := 51) (w := .ref 322) fe_63_51 at_321 (by decide +kernel) rfl ?_
            refine ay_t_stk (pc := 54) (S' := [.int 5, .ref 322]) fe_63_54 rfl ?_
            refine ay_t_loc (pc := 55) fe_63_55 rfl ?_
            refine ay_t_stk (pc := 56) (S' := [.int (5 + a1), .ref 322]) fe_63_56 rfl ?_
            by_cases hb57 : (5 + a1) < 0 ∨ 405 ≤ (5 + a1).toNatClampNeg
            · rw [if_pos hb57] at h; cases h
            rw [if_neg hb57] at h
            refine ay_t_iaload (pc := 57) fe_63_57 at_322 (by decide) hb57 ?_
            refine ay_t_loc (pc := 58) (L' := [some (.ref 321), some (.int a1), some (.int a2), some (.int (D55 322 (5 + a1).toNatClampNeg))]) fe_63_58 rfl ?_
            refine ay_t_loc (pc := 59) fe_63_59 rfl ?_
            refine ay_t_getR (pc := 60) (w := .ref 322) fe_63_60 at_321 (by decide +kernel) rfl ?_
            refine ay_t_stk (pc := 63) (S' := [.int 5, .ref 322]) fe_63_63 rfl ?_
            refine ay_t_loc (pc := 64) fe_63_64 rfl ?_
            refine ay_t_stk (pc := 65) (S' := [.int (5 + a1), .ref 322]) fe_63_65 rfl ?_
            refine ay_t_loc (pc := 66) fe_63_66 rfl ?_
            by_cases hb58 : (5 + a1) < 0 ∨ 405 ≤ (5 + a1).toNatClampNeg
            · rw [if_pos hb58] at h; cases h
            rw [if_neg hb58] at h
            refine ay_t_iastore (pc := 67) fe_63_67 at_322 hb58 ?_
            refine ay_t_loc (pc := 68) fe_63_68 rfl ?_
            cases h
            exact ay_t_iret fe_63_69 rfl rfl
        · rw [if_neg hc53] at h
          refine ay_t_neg (pc := 41) hc53 fe_63_41 rfl ?_
          refine ay_t_stk (pc := 44) (S' := [.int 0]) fe_63_44 rfl ?_
          cases h
          exact ay_t_iret fe_63_45 rfl rfl
def fn_64 (a1 : Int32) (D : am_DD) : Option (Int32 × am_DD) := (if 200 < ((D 1 2) + a1) then some (0, D) else some (1, D))
set_option maxHeartbeats 2000000 in
theorem ev_64 {a1 : Int32} {D : am_DD} {y : Int32} {Z : am_DD} (h : fn_64 a1 D = some (y, Z)) : ay_mo 64 [.ref 1, .int a1] D (.inl (some (.int y))) Z := by
  unfold fn_64 at h
  refine ay_m_of (L := [some (.ref 1), some (.int a1)]) rfl ?_
  refine ay_t_loc (pc := 0) fe_64_0 rfl ?_
  refine ay_t_getI (pc := 1) fe_64_1 at_1 (by decide +kernel) rfl ?_
  refine ay_t_loc (pc := 4) fe_64_4 rfl ?_
  refine ay_t_stk (pc := 5) (S' := [.int ((D 1 2) + a1)]) fe_64_5 rfl ?_
  refine ay_t_stk (pc := 6) (S' := [.int 200, .int ((D 1 2) + a1)]) fe_64_6 rfl ?_
  by_cases hc1 : 200 < ((D 1 2) + a1)
  · rw [if_pos hc1] at h
    refine ay_t_pos (pc := 9) hc1 fe_64_9 rfl ?_
    refine ay_t_stk (pc := 16) (S' := [.int 0]) fe_64_16 rfl ?_
    cases h
    exact ay_t_iret fe_64_17 rfl rfl
  · rw [if_neg hc1] at h
    refine ay_t_neg (pc := 9) hc1 fe_64_9 rfl ?_
    refine ay_t_stk (pc := 12) (S' := [.int 1]) fe_64_12 rfl ?_
    refine ay_t_br (pc := 13) (pc' := 17) fe_64_13 rfl ?_
    cases h
    exact ay_t_iret fe_64_17 rfl rfl
def fn_65 (a1 : Int32) (D : am_DD) : Option (Int32 × am_DD) := some (((am_upd D 1 2 ((D 1 2) + a1)) 1 2), (am_upd D 1 2 ((D 1 2) + a1)))
set_option maxHeartbeats 2000000 in
theorem ev_65 {a1 : Int32} {D : am_DD} {y : Int32} {Z : am_DD} (h : fn_65 a1 D = some (y, Z)) : ay_mo 65 [.ref 1, .int a1] D (.inl (some (.int y))) Z := by
  unfold fn_65 at h
  refine ay_m_of (L := [some (.ref 1), some (.int a1)]) rfl ?_
  refine ay_t_loc (pc := 0) fe_65_0 rfl ?_
  refine ay_t_stk (pc := 1) (S' := [.ref 1, .ref 1]) fe_65_1 rfl ?_
  refine ay_t_getI (pc := 2) fe_65_2 at_1 (by decide +kernel) rfl ?_
  refine ay_t_loc (pc := 5) fe_65_5 rfl ?_
  refine ay_t_stk (pc := 6) (S' := [.int ((D 1 2) + a1), .ref 1]) fe_65_6 rfl ?_
  refine ay_t_put (pc := 7) fe_65_7 at_1 (by decide +kernel) rfl rfl ?_
  refine ay_t_loc (pc := 10) fe_65_10 rfl ?_
  refine ay_t_getI (pc := 11) fe_65_11 at_1 (by decide +kernel) rfl ?_
  cases h
  exact ay_t_iret fe_65_14 rfl rfl
def fn_66 (a1 : Int32) (D : am_DD) : Option (Int32 × Nat × am_DD) := (if a1 < 1 then some (0, 1, D) else (if a1 ≤ 40 then (match fn_64 a1 D with | none => none | some (y3, D4) => (if ¬ y3 = 0 then (match fn_22 D4 with | none => none | some (y7, D8) => (match fn_65 a1 D8 with | none => none | some (y10, D11) => some (y10, 0, D11))) else some (0, 2, D4))) else some (0, 1, D)))
set_option maxHeartbeats 2000000 in
theorem ev_66 {a1 : Int32} {D : am_DD} {y : Int32} {k : Nat} {Z : am_DD} (h : fn_66 a1 D = some (y, k, Z)) : ay_mo 66 [.ref 0, .int a1] D (ay_oc y k) Z := by
  unfold fn_66 at h
  refine ay_m_of (L := [some (.ref 0), some (.int a1)]) rfl ?_
  refine ay_t_loc (pc := 0) fe_66_0 rfl ?_
  refine ay_t_stk (pc := 1) (S' := [.int 1, .int a1]) fe_66_1 rfl ?_
  by_cases hc1 : a1 < 1
  · rw [if_pos hc1] at h
    refine ay_t_pos (pc := 2) hc1 fe_66_2 rfl ?_
    cases h
    exact ay_t_thr fe_66_11 (by decide)
  · rw [if_neg hc1] at h
    refine ay_t_neg (pc := 2) hc1 fe_66_2 rfl ?_
    refine ay_t_loc (pc := 5) fe_66_5 rfl ?_
    refine ay_t_stk (pc := 6) (S' := [.int 40, .int a1]) fe_66_6 rfl ?_
    by_cases hc2 : a1 ≤ 40
    · rw [if_pos hc2] at h
      refine ay_t_pos (pc := 8) hc2 fe_66_8 rfl ?_
      refine ay_t_loc (pc := 21) fe_66_21 rfl ?_
      refine ay_t_getR (pc := 22) (w := .ref 1) fe_66_22 at_0 (by decide +kernel) rfl ?_
      refine ay_t_loc (pc := 25) fe_66_25 rfl ?_
      cases hk5 : fn_64 a1 D with
      | none => rw [hk5] at h; cases h
      | some z =>
        obtain ⟨y3, D4⟩ := z
        rw [hk5] at h
        dsimp only at h
        refine ay_t_call (pc := 26) (w := some (.int y3)) fe_66_26 (ay_args [.ref 1, .int a1] [] rfl rfl (Nat.le_of_ble_eq_true rfl) (Nat.le_of_ble_eq_true rfl)) (ay_rcvV at_1 rfl) (ev_64 hk5) ?_
        by_cases hc6 : ¬ y3 = 0
        · rw [if_pos hc6] at h
          refine ay_t_pos (pc := 29) hc6 fe_66_29 rfl ?_
          refine ay_t_loc (pc := 42) fe_66_42 rfl ?_
          refine ay_t_getR (pc := 43) (w := .ref 56) fe_66_43 at_0 (by decide +kernel) rfl ?_
          refine ay_t_loc (pc := 46) fe_66_46 rfl ?_
          refine ay_t_getR (pc := 47) (w := .ref 1) fe_66_47 at_0 (by decide +kernel) rfl ?_
          cases hk9 : fn_22 D4 with
          | none => rw [hk9] at h; cases h
          | some z =>
            obtain ⟨y7, D8⟩ := z
            rw [hk9] at h
            dsimp only at h
            refine ay_t_call (pc := 50) (w := none) fe_66_50 (ay_args [.ref 56, .ref 1] [] rfl rfl (Nat.le_of_ble_eq_true rfl) (Nat.le_of_ble_eq_true rfl)) (ay_rcvV at_56 rfl) (ev_22 hk9) ?_
            refine ay_t_loc (pc := 53) fe_66_53 rfl ?_
            refine ay_t_getR (pc := 54) (w := .ref 1) fe_66_54 at_0 (by decide +kernel) rfl ?_
            refine ay_t_loc (pc := 57) fe_66_57 rfl ?_
            cases hk12 : fn_65 a1 D8 with
            | none => rw [hk12] at h; cases h
            | some z =>
              obtain ⟨y10, D11⟩ := z
              rw [hk12] at h
              dsimp only at h
              refine ay_t_call (pc := 58) (w := some (.int y10)) fe_66_58 (ay_args [.ref 1, .int a1] [] rfl rfl (Nat.le_of_ble_eq_true rfl) (Nat.le_of_ble_eq_true rfl)) (ay_rcvV at_1 rfl) (ev_65 hk12) ?_
              cases h
              exact ay_t_iret fe_66_61 rfl rfl
        · rw [if_neg hc6] at h
          refine ay_t_neg (pc := 29) hc6 fe_66_29 rfl ?_
          cases h
          exact ay_t_thr fe_66_32 (by decide)
    · rw [if_neg hc2] at h
      refine ay_t_neg (pc := 8) hc2 fe_66_8 rfl ?_
      cases h
      exact ay_t_thr fe_66_11 (by decide)
def fn_68 (a1 : Int32) (D : am_DD) : Option (Int32 × am_DD) := (match fn_26 a1 1 40 D with | none => none | some (y1, D2) => (if ¬ y1 = 0 then (if ((D2 322 4) + a1) ≤ 200 then some (0, D2) else some (2, D2)) else some (1, D2)))
set_option maxHeartbeats 2000000 in
theorem ev_68 {a1 : Int32} {D : am_DD} {y : Int32} {Z : am_DD} (h : fn_68 a1 D = some (y, Z)) : ay_mo 68 [.ref 321, .int a1] D (.inl (some (.int y))) Z := by
  unfold fn_68 at h
  refine ay_m_of (L := [some (.ref 321), some (.int a1)]) rfl ?_
  refine ay_t_loc (pc := 0) fe_68_0 rfl ?_
  refine ay_t_stk (pc := 1) (S' := [.int 1, .int a1]) fe_68_1 rfl ?_
  refine ay_t_stk (pc := 2) (S' := [.int 40, .int 1, .int a1]) fe_68_2 rfl ?_
  cases hk3 : fn_26 a1 1 40 D with
  | none => rw [hk3] at h; cases h
  | some z =>
    obtain ⟨y1, D2⟩ := z
    rw [hk3] at h
    dsimp only at h
    refine ay_t_call (pc := 4) (w := some (.int y1)) fe_68_4 (ay_args [.int a1, .int 1, .int 40] [] rfl rfl (Nat.le_of_ble_eq_true rfl) (Nat.le_of_ble_eq_true rfl)) rfl (ev_26 hk3) ?_
    by_cases hc4 : ¬ y1 = 0
    · rw [if_pos hc4] at h
      refine ay_t_pos (pc := 7) hc4 fe_68_7 rfl ?_
      refine ay_t_loc (pc := 14) fe_68_14 rfl ?_
      refine ay_t_getR (pc := 15) (w := .ref 322) fe_68_15 at_321 (by decide +kernel) rfl ?_
      refine ay_t_stk (pc := 18) (S' := [.int 4, .ref 322]) fe_68_18 rfl ?_
      refine ay_t_ialoadk (pc := 19) (k := 4) fe_68_19 at_322 (by decide) (by decide) (by decide) ?_
      refine ay_t_loc (pc := 20) fe_68_20 rfl ?_
      refine ay_t_stk (pc := 21) (S' := [.int ((D2 322 4) + a1)]) fe_68_21 rfl ?_
      refine ay_t_stk (pc := 22) (S' := [.int 200, .int ((D2 322 4) + a1)]) fe_68_22 rfl ?_
      by_cases hc5 : ((D2 322 4) + a1) ≤ 200
      · rw [if_pos hc5] at h
        refine ay_t_pos (pc := 25) hc5 fe_68_25 rfl ?_
        refine ay_t_stk (pc := 32) (S' := [.int 0]) fe_68_32 rfl ?_
        cases h
        exact ay_t_iret fe_68_33 rfl rfl
      · rw [if_neg hc5] at h
        refine ay_t_neg (pc := 25) hc5 fe_68_25 rfl ?_
        refine ay_t_stk (pc := 28) (S' := [.int 2]) fe_68_28 rfl ?_
        refine ay_t_br (pc := 29) (pc' := 33) fe_68_29 rfl ?_
        cases h
        exact ay_t_iret fe_68_33 rfl rfl
    · rw [if_neg hc4] at h
      refine ay_t_neg (pc := 7) hc4 fe_68_7 rfl ?_
      refine ay_t_stk (pc := 10) (S' := [.int 1]) fe_68_10 rfl ?_
      refine ay_t_br (pc := 11) (pc' := 33) fe_68_11 rfl ?_
      cases h
      exact ay_t_iret fe_68_33 rfl rfl
def fn_69 (a1 : Int32) (D : am_DD) : Option (Int32 × am_DD) := some (((am_upd D 322 4 ((D 322 4) + a1)) 322 4), (am_upd D 322 4 ((D 322 4) + a1)))
set_option maxHeartbeats 2000000 in
theorem ev_69 {a1 : Int32} {D : am_DD} {y : Int32} {Z : am_DD} (h : fn_69 a1 D = some (y, Z)) : ay_mo 69 [.ref 321, .int a1] D (.inl (some (.int y))) Z := by
  unfold fn_69 at h
  refine ay_m_of (L := [some (.ref 321), some (.int a1)]) rfl ?_
  refine ay_t_loc (pc := 0) fe_69_0 rfl ?_
  refine ay_t_getR (pc := 1) (w := .ref 322) fe_69_1 at_321 (by decide +kernel) rfl ?_
  refine ay_t_stk (pc := 4) (S' := [.int 4, .ref 322]) fe_69_4 rfl ?_
  refine ay_t_stk (pc := 5) (S' := [.int 4, .ref 322, .int 4, .ref 322]) fe_69_5 rfl ?_
  refine ay_t_ialoadk (pc := 6) (k := 4) fe_69_6 at_322 (by decide) (by decide) (by decide) ?_
  refine ay_t_loc (pc := 7) fe_69_7 rfl ?_
  refine ay_t_stk (pc := 8) (S' := [.int ((D 322 4) + a1), .int 4, .ref 322]) fe_69_8 rfl ?_
  refine ay_t_iastorek (pc := 9) (k := 4) fe_69_9 at_322 (by decide) (by decide) ?_
  refine ay_t_loc (pc := 10) fe_69_10 rfl ?_
  refine ay_t_getR (pc := 11) (w := .ref 322) fe_69_11 at_321 (by decide +kernel) rfl ?_
  refine ay_t_stk (pc := 14) (S' := [.int 4, .ref 322]) fe_69_14 rfl ?_
  refine ay_t_ialoadk (pc := 15) (k := 4) fe_69_15 at_322 (by decide) (by decide) (by decide) ?_
  cases h
  exact ay_t_iret fe_69_16 rfl rfl
def fn_70 (a1 : Int32) (D : am_DD) : Option (Int32 × am_DD) := (match fn_68 a1 D with | none => none | some (y1, D2) => (match fn_29 y1 D2 with | none => none | some (y4, D5) => (if ¬ y4 = 0 then (match fn_31 D5 with | none => none | some (y8, D9) => (match fn_69 a1 D9 with | none => none | some (y11, D12) => some (y11, D12))) else some (0, D5))))
set_option maxHeartbeats 2000000 in
theorem ev_70 {a1 : Int32} {D : am_DD} {y : Int32} {Z : am_DD} (h : fn_70 a1 D = some (y, Z)) : ay_mo 70 [.ref 321, .int a1] D (.inl (some (.int y))) Z := by
  unfold fn_70 at h
  refine ay_m_of (L := [some (.ref 321), some (.int a1)]) rfl ?_
  refine ay_t_loc (pc := 0) fe_70_0 rfl ?_
  refine ay_t_loc (pc := 1) fe_70_1 rfl ?_
  refine ay_t_loc (pc := 2) fe_70_2 rfl ?_
  cases hk3 : fn_68 a1 D with
  | none => rw [hk3] at h; cases h
  | some z =>
    obtain ⟨y1, D2⟩ := z
    rw [hk3] at h
    dsimp only at h
    refine ay_t_call (pc := 3) (w := some (.int y1)) fe_70_3 (ay_args [.ref 321, .int a1] [.ref 321] rfl rfl (Nat.le_of_ble_eq_true rfl) (Nat.le_of_ble_eq_true rfl)) (ay_rcvV at_321 rfl) (ev_68 hk3) ?_
    cases hk6 : fn_29 y1 D2 with
    | none => rw [hk6] at h; cases h
    | some z =>
      obtain ⟨y4, D5⟩ := z
      rw [hk6] at h
      dsimp only at h
      refine ay_t_call (pc := 6) (w := some (.int y4)) fe_70_6 (ay_args [.ref 321, .int y1] [] rfl rfl (Nat.le_of_ble_eq_true rfl) (Nat.le_of_ble_eq_true rfl)) (ay_rcvV at_321 rfl) (ev_29 hk6) ?_
      by_cases hc7 : ¬ y4 = 0
      · rw [if_pos hc7] at h
        refine ay_t_pos (pc := 9) hc7 fe_70_9 rfl ?_
        refine ay_t_loc (pc := 14) fe_70_14 rfl ?_
        cases hk10 : fn_31 D5 with
        | none => rw [hk10] at h; cases h
        | some z =>
          obtain ⟨y8, D9⟩ := z
          rw [hk10] at h
          dsimp only at h
          refine ay_t_call (pc := 15) (w := none) fe_70_15 (ay_args [.ref 321] [] rfl rfl (Nat.le_of_ble_eq_true rfl) (Nat.le_of_ble_eq_true rfl)) (ay_rcvV at_321 rfl) (ev_31 hk10) ?_
          refine ay_t_loc (pc := 18) fe_70_18 rfl ?_
          refine ay_t_loc (pc := 19) fe_70_19 rfl ?_
          cases hk13 : fn_69 a1 D9 with
          | none => rw [hk13] at h; cases h
          | some z =>
            obtain ⟨y11, D12⟩ := z
            rw [hk13] at h
            dsimp only at h
            refine ay_t_call (pc := 20) (w := some (.int y11)) fe_70_20 (ay_args [.ref 321, .int a1] [] rfl rfl (Nat.le_of_ble_eq_true rfl) (Nat.le_of_ble_eq_true rfl)) (ay_rcvV at_321 rfl) (ev_69 hk13) ?_
            cases h
            exact ay_t_iret fe_70_23 rfl rfl
      · rw [if_neg hc7] at h
        refine ay_t_neg (pc := 9) hc7 fe_70_9 rfl ?_
        refine ay_t_stk (pc := 12) (S' := [.int 0]) fe_70_12 rfl ?_
        cases h
        exact ay_t_iret fe_70_13 rfl rfl
def fn_71 (a1 : Int32) (D : am_DD) : Option (Int32 × am_DD) := some ((((D 26 0) + a1) - ((D 26 0) + a1) / 60 * 60), D)
set_option maxHeartbeats 2000000 in
theorem ev_71 {a1 : Int32} {D : am_DD} {y : Int32} {Z : am_DD} (h : fn_71 a1 D = some (y, Z)) : ay_mo 71 [.ref 26, .int a1] D (.inl (some (.int y))) Z := by
  unfold fn_71 at h
  refine ay_m_of (L := [some (.ref 26), some (.int a1)]) rfl ?_
  refine ay_t_loc (pc := 0) fe_71_0 rfl ?_
  refine ay_t_getI (pc := 1) fe_71_1 at_26 (by decide +kernel) rfl ?_
  refine ay_t_loc (pc := 4) fe_71_4 rfl ?_
  refine ay_t_stk (pc := 5) (S' := [.int ((D 26 0) + a1)]) fe_71_5 rfl ?_
  refine ay_t_stk (pc := 6) (S' := [.int 60, .int ((D 26 0) + a1)]) fe_71_6 rfl ?_
  refine ay_t_stk (pc := 8) (S' := [.int (((D 26 0) + a1) - ((D 26 0) + a1) / 60 * 60)]) fe_71_8 (ay_irem (by decide)) ?_
  cases h
  exact ay_t_iret fe_71_9 rfl rfl
def fn_72 (a1 a2 a3 : Int32) (D : am_DD) : Option (Int32 × am_DD) := (match fn_71 (D 26 1) D with | none => none | some (y1, D2) => (if 60 ≤ ((am_upd (rw_put (rw_put (rw_put D2 28 60 y1 a1) 30 60 y1 a2) 32 60 y1 a3) 26 2 (((rw_put (rw_put (rw_put D2 28 60 y1 a1) 30 60 y1 a2) 32 60 y1 a3) 26 2) + 1)) 26 1) then (match fn_71 1 (am_upd (rw_put (rw_put (rw_put D2 28 60 y1 a1) 30 60 y1 a2) 32 60 y1 a3) 26 2 (((rw_put (rw_put (rw_put D2 28 60 y1 a1) 30 60 y1 a2) 32 60 y1 a3) 26 2) + 1)) with | none => none | some (y5, D6) => some (0, (am_upd D6 26 0 y5))) else some (0, (am_upd (am_upd (rw_put (rw_put (rw_put D2 28 60 y1 a1) 30 60 y1 a2) 32 60 y1 a3) 26 2 (((rw_put (rw_put (rw_put D2 28 60 y1 a1) 30 60 y1 a2) 32 60 y1 a3) 26 2) + 1)) 26 1 (((am_upd (rw_put (rw_put (rw_put D2 28 60 y1 a1) 30 60 y1 a2) 32 60 y1 a3) 26 2 (((rw_put (rw_put (rw_put D2 28 60 y1 a1) 30 60 y1 a2) 32 60 y1 a3) 26 2) + 1)) 26 1) + 1)))))
set_option maxHeartbeats 2000000 in
theorem ev_72 {a1 a2 a3 : Int32} {D : am_DD} {y : Int32} {Z : am_DD} (h : fn_72 a1 a2 a3 D = some (y, Z)) : ay_mo 72 [.ref 26, .int a1, .int a2, .int a3] D (.inl none) Z := by
  unfold fn_72 at h
  refine ay_m_of (L := [some (.ref 26), some (.int a1), some (.int a2), some (.int a3), none]) rfl ?_
  refine ay_t_loc (pc := 0) fe_72_0 rfl ?_
  refine ay_t_loc (pc := 1) fe_72_1 rfl ?_
  refine ay_t_getI (pc := 2) fe_72_2 at_26 (by decide +kernel) rfl ?_
  cases hk3 : fn_71 (D 26 1) D with
  | none => rw [hk3] at h; cases h
  | some z =>
    obtain ⟨y1, D2⟩ := z
    rw [hk3] at h
    dsimp only at h
    refine ay_t_call (pc := 5) (w := some (.int y1)) fe_72_5 (ay_args [.ref 26, .int (D 26 1)] [] rfl rfl (Nat.le_of_ble_eq_true rfl) (Nat.le_of_ble_eq_true rfl)) (ay_rcvV at_26 rfl) (ev_71 hk3) ?_
    refine ay_t_loc (pc := 8) (L' := [some (.ref 26), some (.int a1), some (.int a2), some (.int a3), some (.int y1)]) fe_72_8 rfl ?_
    refine ay_t_loc (pc := 10) fe_72_10 rfl ?_
    refine ay_t_getR (pc := 11) (w := .ref 27) fe_72_11 at_26 (by decide +kernel) rfl ?_
    refine ay_t_loc (pc := 14) fe_72_14 rfl ?_
    refine ay_t_loc (pc := 16) fe_72_16 rfl ?_
    refine ay_t_call (pc := 17) (w := none) fe_72_17 (ay_args [.ref 27, .int y1, .int a1] [] rfl rfl (Nat.le_of_ble_eq_true rfl) (Nat.le_of_ble_eq_true rfl)) (ay_rcvV at_27 rfl) (mt_put at_27 at_28 (by decide)) ?_
    refine ay_t_loc (pc := 20) fe_72_20 rfl ?_
    refine ay_t_getR (pc := 21) (w := .ref 29) fe_72_21 at_26 (by decide +kernel) rfl ?_
    refine ay_t_loc (pc := 24) fe_72_24 rfl ?_
    refine ay_t_loc (pc := 26) fe_72_26 rfl ?_
    refine ay_t_call (pc := 27) (w := none) fe_72_27 (ay_args [.ref 29, .int y1, .int a2] [] rfl rfl (Nat.le_of_ble_eq_true rfl) (Nat.le_of_ble_eq_true rfl)) (ay_rcvV at_29 rfl) (mt_put at_29 at_30 (by decide)) ?_
    refine ay_t_loc (pc := 30) fe_72_30 rfl ?_
    refine ay_t_getR (pc := 31) (w := .ref 31) fe_72_31 at_26 (by decide +kernel) rfl ?_
    refine ay_t_loc (pc := 34) fe_72_34 rfl ?_
    refine ay_t_loc (pc := 36) fe_72_36 rfl ?_
    refine ay_t_call (pc := 37) (w := none) fe_72_37 (ay_args [.ref 31, .int y1, .int a3] [] rfl rfl (Nat.le_of_ble_eq_true rfl) (Nat.le_of_ble_eq_true rfl)) (ay_rcvV at_31 rfl) (mt_put at_31 at_32 (by decide)) ?_
    refine ay_t_loc (pc := 40) fe_72_40 rfl ?_
    refine ay_t_stk (pc := 41) (S' := [.ref 26, .ref 26]) fe_72_41 rfl ?_
    refine ay_t_getI (pc := 42) fe_72_42 at_26 (by decide +kernel) rfl ?_
    refine ay_t_stk (pc := 45) (S' := [.int 1, .int ((rw_put (rw_put (rw_put D2 28 60 y1 a1) 30 60 y1 a2) 32 60 y1 a3) 26 2), .ref 26]) fe_72_45 rfl ?_
    refine ay_t_stk (pc := 46) (S' := [.int (((rw_put (rw_put (rw_put D2 28 60 y1 a1) 30 60 y1 a2) 32 60 y1 a3) 26 2) + 1), .ref 26]) fe_72_46 rfl ?_
    refine ay_t_put (pc := 47) fe_72_47 at_26 (by decide +kernel) rfl rfl ?_
    refine ay_t_loc (pc := 50) fe_72_50 rfl ?_
    refine ay_t_getI (pc := 51) fe_72_51 at_26 (by decide +kernel) rfl ?_
    refine ay_t_stk (pc := 54) (S' := [.int 60, .int ((am_upd (rw_put (rw_put (rw_put D2 28 60 y1 a1) 30 60 y1 a2) 32 60 y1 a3) 26 2 (((rw_put (rw_put (rw_put D2 28 60 y1 a1) 30 60 y1 a2) 32 60 y1 a3) 26 2) + 1)) 26 1)]) fe_72_54 rfl ?_
    by_cases hc4 : 60 ≤ ((am_upd (rw_put (rw_put (rw_put D2 28 60 y1 a1) 30 60 y1 a2) 32 60 y1 a3) 26 2 (((rw_put (rw_put (rw_put D2 28 60 y1 a1) 30 60 y1 a2) 32 60 y1 a3) 26 2) + 1)) 26 1)
    · rw [if_pos hc4] at h
      refine ay_t_pos (pc := 56) hc4 fe_72_56 rfl ?_
      refine ay_t_loc (pc := 72) fe_72_72 rfl ?_
      refine ay_t_loc (pc := 73) fe_72_73 rfl ?_
      refine ay_t_stk (pc := 74) (S' := [.int 1, .ref 26, .ref 26]) fe_72_74 rfl ?_
      cases hk7 : fn_71 1 (am_upd (rw_put (rw_put (rw_put D2 28 60 y1 a1) 30 60 y1 a2) 32 60 y1 a3) 26 2 (((rw_put (rw_put (rw_put D2 28 60 y1 a1) 30 60 y1 a2) 32 60 y1 a3) 26 2) + 1)) with
      | none => rw [hk7] at h; cases h
      | some z =>
        obtain ⟨y5, D6⟩ := z
        rw [hk7] at h
        dsimp only at h
        refine ay_t_call (pc := 75) (w := some (.int y5)) fe_72_75 (ay_args [.ref 26, .int 1] [.ref 26] rfl rfl (Nat.le_of_ble_eq_true rfl) (Nat.le_of_ble_eq_true rfl)) (ay_rcvV at_26 rfl) (ev_71 hk7) ?_
        refine ay_t_put (pc := 78) fe_72_78 at_26 (by decide +kernel) rfl rfl ?_
        cases h
        exact ay_t_vret fe_72_81 rfl
    · rw [if_neg hc4] at h
      refine ay_t_neg (pc := 56) hc4 fe_72_56 rfl ?_
      refine ay_t_loc (pc := 59) fe_72_59 rfl ?_
      refine ay_t_stk (pc := 60) (S' := [.ref 26, .ref 26]) fe_72_60 rfl ?_
      refine ay_t_getI (pc := 61) fe_72_61 at_26 (by decide +kernel) rfl ?_
      refine ay_t_stk (pc := 64) (S' := [.int 1, .int ((am_upd (rw_put (rw_put (rw_put D2 28 60 y1 a1) 30 60 y1 a2) 32 60 y1 a3) 26 2 (((rw_put (rw_put (rw_put D2 28 60 y1 a1) 30 60 y1 a2) 32 60 y1 a3) 26 2) + 1)) 26 1), .ref 26]) fe_72_64 rfl ?_
      refine ay_t_stk (pc := 65) (S' := [.int (((am_upd (rw_put (rw_put (rw_put D2 28 60 y1 a1) 30 60 y1 a2) 32 60 y1 a3) 26 2 (((rw_put (rw_put (rw_put D2 28 60 y1 a1) 30 60 y1 a2) 32 60 y1 a3) 26 2) + 1)) 26 1) + 1), .ref 26]) fe_72_65 rfl ?_
      refine ay_t_put (pc := 66) fe_72_66 at_26 (by decide +kernel) rfl rfl ?_
      refine ay_t_br (pc := 69) (pc' := 81) fe_72_69 rfl ?_
      cases h
      exact ay_t_vret fe_72_81 rfl
def fn_73 (a1 a2 : Int32) (D : am_DD) : Option (Int32 × am_DD) := some ((rw_at (D 16) 24 ((2 * a1) + a2)), D)
set_option maxHeartbeats 2000000 in
theorem ev_73 {a1 a2 : Int32} {D : am_DD} {y : Int32} {Z : am_DD} (h : fn_73 a1 a2 D = some (y, Z)) : ay_mo 73 [.ref 8, .int a1, .int a2] D (.inl (some (.int y))) Z := by
  unfold fn_73 at h
  refine ay_m_of (L := [some (.ref 8), some (.int a1), some (.int a2)]) rfl ?_
  refine ay_t_loc (pc := 0) fe_73_0 rfl ?_
  refine ay_t_getR (pc := 1) (w := .ref 15) fe_73_1 at_8 (by decide +kernel) rfl ?_
  refine ay_t_stk (pc := 4) (S' := [.int 2, .ref 15]) fe_73_4 rfl ?_
  refine ay_t_loc (pc := 5) fe_73_5 rfl ?_
  refine ay_t_stk (pc := 6) (S' := [.int (2 * a1), .ref 15]) fe_73_6 rfl ?_
  refine ay_t_loc (pc := 7) fe_73_7 rfl ?_
  refine ay_t_stk (pc := 8) (S' := [.int ((2 * a1) + a2), .ref 15]) fe_73_8 rfl ?_
  refine ay_t_call (pc := 9) (w := some (.int (rw_at (D 16) 24 ((2 * a1) + a2)))) fe_73_9 (ay_args [.ref 15, .int ((2 * a1) + a2)] [] rfl rfl (Nat.le_of_ble_eq_true rfl) (Nat.le_of_ble_eq_true rfl)) (ay_rcvV at_15 rfl) (mt_at at_15 at_16 (by decide)) ?_
  cases h
  exact ay_t_iret fe_73_12 rfl rfl
def fn_74 (a1 : Int32) (D : am_DD) : Option (Int32 × am_DD) := (match fn_73 a1 (rw_at (D 10) 12 a1) (rw_put (rw_raise D 18 24 ((2 * a1) + (rw_at (D 10) 12 a1)) 1) 10 12 a1 (1 - (rw_at (D 10) 12 a1))) with | none => none | some (y1, D2) => some (y1, D2))
set_option maxHeartbeats 2000000 in
theorem ev_74 {a1 : Int32} {D : am_DD} {y : Int32} {Z : am_DD} (h : fn_74 a1 D = some (y, Z)) : ay_mo 74 [.ref 8, .int a1] D (.inl (some (.int y))) Z := by
  unfold fn_74 at h
  refine ay_m_of (L := [some (.ref 8), some (.int a1), none]) rfl ?_
  refine ay_t_loc (pc := 0) fe_74_0 rfl ?_
  refine ay_t_getR (pc := 1) (w := .ref 9) fe_74_1 at_8 (by decide +kernel) rfl ?_
  refine ay_t_loc (pc := 4) fe_74_4 rfl ?_
  refine ay_t_call (pc := 5) (w := some (.int (rw_at (D 10) 12 a1))) fe_74_5 (ay_args [.ref 9, .int a1] [] rfl rfl (Nat.le_of_ble_eq_true rfl) (Nat.le_of_ble_eq_true rfl)) (ay_rcvV at_9 rfl) (mt_at at_9 at_10 (by decide)) ?_
  refine ay_t_loc (pc := 8) (L' := [some (.ref 8), some (.int a1), some (.int (rw_at (D 10) 12 a1))]) fe_74_8 rfl ?_
  refine ay_t_loc (pc := 9) fe_74_9 rfl ?_
  refine ay_t_getR (pc := 10) (w := .ref 17) fe_74_10 at_8 (by decide +kernel) rfl ?_
  refine ay_t_stk (pc := 13) (S' := [.int 2, .ref 17]) fe_74_13 rfl ?_
  refine ay_t_loc (pc := 14) fe_74_14 rfl ?_
  refine ay_t_stk (pc := 15) (S' := [.int (2 * a1), .ref 17]) fe_74_15 rfl ?_
  refine ay_t_loc (pc := 16) fe_74_16 rfl ?_
  refine ay_t_stk (pc := 17) (S' := [.int ((2 * a1) + (rw_at (D 10) 12 a1)), .ref 17]) fe_74_17 rfl ?_
  refine ay_t_stk (pc := 18) (S' := [.int 1, .int ((2 * a1) + (rw_at (D 10) 12 a1)), .ref 17]) fe_74_18 rfl ?_
  refine ay_t_call (pc := 19) (w := none) fe_74_19 (ay_args [.ref 17, .int ((2 * a1) + (rw_at (D 10) 12 a1)), .int 1] [] rfl rfl (Nat.le_of_ble_eq_true rfl) (Nat.le_of_ble_eq_true rfl)) (ay_rcvV at_17 rfl) (mt_raise at_17 at_18 (by decide)) ?_
  refine ay_t_loc (pc := 22) fe_74_22 rfl ?_
  refine ay_t_getR (pc := 23) (w := .ref 9) fe_74_23 at_8 (by decide +kernel) rfl ?_
  refine ay_t_loc (pc := 26) fe_74_26 rfl ?_
  refine ay_t_stk (pc := 27) (S' := [.int 1, .int a1, .ref 9]) fe_74_27 rfl ?_
  refine ay_t_loc (pc := 28) fe_74_28 rfl ?_
  refine ay_t_stk (pc := 29) (S' := [.int (1 - (rw_at (D 10) 12 a1)), .int a1, .ref 9]) fe_74_29 rfl ?_
  refine ay_t_call (pc := 30) (w := none) fe_74_30 (ay_args [.ref 9, .int a1, .int (1 - (rw_at (D 10) 12 a1))] [] rfl rfl (Nat.le_of_ble_eq_true rfl) (Nat.le_of_ble_eq_true rfl)) (ay_rcvV at_9 rfl) (mt_put at_9 at_10 (by decide)) ?_
  refine ay_t_loc (pc := 33) fe_74_33 rfl ?_
  refine ay_t_loc (pc := 34) fe_74_34 rfl ?_
  refine ay_t_loc (pc := 35) fe_74_35 rfl ?_
  cases hk3 : fn_73 a1 (rw_at (D 10) 12 a1) (rw_put (rw_raise D 18 24 ((2 * a1) + (rw_at (D 10) 12 a1)) 1) 10 12 a1 (1 - (rw_at (D 10) 12 a1))) with
  | none => rw [hk3] at h; cases h
  | some z =>
    obtain ⟨y1, D2⟩ := z
    rw [hk3] at h
    dsimp only at h
    refine ay_t_call (pc := 36) (w := some (.int y1)) fe_74_36 (ay_args [.ref 8, .int a1, .int (rw_at (D 10) 12 a1)] [] rfl rfl (Nat.le_of_ble_eq_true rfl) (Nat.le_of_ble_eq_true rfl)) (ay_rcvV at_8 rfl) (ev_73 hk3) ?_
    cases h
    exact ay_t_iret fe_74_39 rfl rfl
def fn_75 (a1 a2 a3 : Int32) (D : am_DD) : Option (Int32 × am_DD) := some (0, (rw_put (rw_put (rw_put D 21 40 a2 a3) 23 40 a2 (rw_at ((rw_put D 21 40 a2 a3) 23) 40 a1)) 25 40 a2 ((rw_at ((rw_put (rw_put D 21 40 a2 a3) 23 40 a2 (rw_at ((rw_put D 21 40 a2 a3) 23) 40 a1)) 25) 40 a1) + 1)))
set_option maxHeartbeats 2000000 in
theorem ev_75 {a1 a2 a3 : Int32} {D : am_DD} {y : Int32} {Z : am_DD} (h : fn_75 a1 a2 a3 D = some (y, Z)) : ay_mo 75 [.ref 19, .int a1, .int a2, .int a3] D (.inl none) Z := by
  unfold fn_75 at h
  refine ay_m_of (L := [some (.ref 19), some (.int a1), some (.int a2), some (.int a3)]) rfl ?_
  refine ay_t_loc (pc := 0) fe_75_0 rfl ?_
  refine ay_t_getR (pc := 1) (w := .ref 20) fe_75_1 at_19 (by decide +kernel) rfl ?_
  refine ay_t_loc (pc := 4) fe_75_4 rfl ?_
  refine ay_t_loc (pc := 5) fe_75_5 rfl ?_
  refine ay_t_call (pc := 6) (w := none) fe_75_6 (ay_args [.ref 20, .int a2, .int a3] [] rfl rfl (Nat.le_of_ble_eq_true rfl) (Nat.le_of_ble_eq_true rfl)) (ay_rcvV at_20 rfl) (mt_put at_20 at_21 (by decide)) ?_
  refine ay_t_loc (pc := 9) fe_75_9 rfl ?_
  refine ay_t_getR (pc := 10) (w := .ref 22) fe_75_10 at_19 (by decide +kernel) rfl ?_
  refine ay_t_loc (pc := 13) fe_75_13 rfl ?_
  refine ay_t_loc (pc := 14) fe_75_14 rfl ?_
  refine ay_t_getR (pc := 15) (w := .ref 22) fe_75_15 at_19 (by decide +kernel) rfl ?_
  refine ay_t_loc (pc := 18) fe_75_18 rfl ?_
  refine ay_t_call (pc := 19) (w := some (.int (rw_at ((rw_put D 21 40 a2 a3) 23) 40 a1))) fe_75_19 (ay_args [.ref 22, .int a1] [.int a2, .ref 22] rfl rfl (Nat.le_of_ble_eq_true rfl) (Nat.le_of_ble_eq_true rfl)) (ay_rcvV at_22 rfl) (mt_at at_22 at_23 (by decide)) ?_
  refine ay_t_call (pc := 22) (w := none) fe_75_22 (ay_args [.ref 22, .int a2, .int (rw_at ((rw_put D 21 40 a2 a3) 23) 40 a1)] [] rfl rfl (Nat.le_of_ble_eq_true rfl) (Nat.le_of_ble_eq_true rfl)) (ay_rcvV at_22 rfl) (mt_put at_22 at_23 (by decide)) ?_
  refine ay_t_loc (pc := 25) fe_75_25 rfl ?_
  refine ay_t_getR (pc := 26) (w := .ref 24) fe_75_26 at_19 (by decide +kernel) rfl ?_
  refine ay_t_loc (pc := 29) fe_75_29 rfl ?_
  refine ay_t_loc (pc := 30) fe_75_30 rfl ?_
  refine ay_t_getR (pc := 31) (w := .ref 24) fe_75_31 at_19 (by decide +kernel) rfl ?_
  refine ay_t_loc (pc := 34) fe_75_34 rfl ?_
  refine ay_t_call (pc := 35) (w := some (.int (rw_at ((rw_put (rw_put D 21 40 a2 a3) 23 40 a2 (rw_at ((rw_put D 21 40 a2 a3) 23) 40 a1)) 25) 40 a1))) fe_75_35 (ay_args [.ref 24, .int a1] [.int a2, .ref 24] rfl rfl (Nat.le_of_ble_eq_true rfl) (Nat.le_of_ble_eq_true rfl)) (ay_rcvV at_24 rfl) (mt_at at_24 at_25 (by decide)) ?_
  refine ay_t_stk (pc := 38) (S' := [.int 1, .int (rw_at ((rw_put (rw_put D 21 40 a2 a3) 23 40 a2 (rw_at ((rw_put D 21 40 a2 a3) 23) 40 a1)) 25) 40 a1), .int a2, .ref 24]) fe_75_38 rfl ?_
  refine ay_t_stk (pc := 39) (S' := [.int ((rw_at ((rw_put (rw_put D 21 40 a2 a3) 23 40 a2 (rw_at ((rw_put D 21 40 a2 a3) 23) 40 a1)) 25) 40 a1) + 1), .int a2, .ref 24]) fe_75_39 rfl ?_
  refine ay_t_call (pc := 40) (w := none) fe_75_40 (ay_args [.ref 24, .int a2, .int ((rw_at ((rw_put (rw_put D 21 40 a2 a3) 23 40 a2 (rw_at ((rw_put D 21 40 a2 a3) 23) 40 a1)) 25) 40 a1) + 1)] [] rfl rfl (Nat.le_of_ble_eq_true rfl) (Nat.le_of_ble_eq_true rfl)) (ay_rcvV at_24 rfl) (mt_put at_24 at_25 (by decide)) ?_
  cases h
  exact ay_t_vret fe_75_43 rfl
def fn_76_12 : Nat → Int32 → Int32 → Int32 → am_DD → Option (Int32 × am_DD)
  | 0, _, _, _, _ => none
  | n + 1, x1, x2, x3, D => (if x1 ≤ x3 then some (0, (am_upd D 19 0 x2)) else (match fn_72 (D 1 0) (rw_at (D 21) 40 x3) (rw_at (D 12) 12 (rw_at (D 21) 40 x3)) D with | none => none | some (y2, D3) => (match fn_74 (rw_at (D 21) 40 x3) D3 with | none => none | some (y5, D6) => (if 20 ≤ y5 then fn_76_12 n x1 x2 (x3 + 1) (rw_raise (rw_raise D6 5 5 (y5 - 20) 1) 7 5 (y5 - 20) 1) else (match fn_75 x3 x2 y5 D6 with | none => none | some (y9, D10) => fn_76_12 n x1 (x2 + 1) (x3 + 1) D10)))))
set_option maxHeartbeats 2000000 in
theorem ev_76_12 : ∀ (n : Nat) (x1 x2 x3 : Int32) (D : am_DD) (y : Int32) (Z : am_DD), fn_76_12 n x1 x2 x3 D = some (y, Z) → ay_to 76 12 [some (.ref 1), some (.int x1), some (.int x2), some (.int x3), none, none] [] D (.inl none) Z := by
  intro n
  induction n with
  | zero => intro x1 x2 x3 D y Z h; cases h
  | succ n ih =>
    intro x1 x2 x3 D y Z h
    rw [fn_76_12] at h
    refine ay_t_loc (pc := 12) fe_76_12 rfl ?_
    refine ay_t_loc (pc := 13) fe_76_13 rfl ?_
    by_cases hc1 : x1 ≤ x3
    · rw [if_pos hc1] at h
      refine ay_t_pos (pc := 14) hc1 fe_76_14 rfl ?_
      refine ay_t_loc (pc := 122) fe_76_122 rfl ?_
      refine ay_t_getR (pc := 123) (w := .ref 19) fe_76_123 at_1 (by decide +kernel) rfl ?_
      refine ay_t_loc (pc := 126) fe_76_126 rfl ?_
      refine ay_t_put (pc := 127) fe_76_127 at_19 (by decide +kernel) rfl rfl ?_
      cases h
      exact ay_t_vret fe_76_130 rfl
    · rw [if_neg hc1] at h
      refine ay_t_neg (pc := 14) hc1 fe_76_14 rfl ?_
      refine ay_t_loc (pc := 17) fe_76_17 rfl ?_
      refine ay_t_getR (pc := 18) (w := .ref 19) fe_76_18 at_1 (by decide +kernel) rfl ?_
      refine ay_t_getR (pc := 21) (w := .ref 20) fe_76_21 at_19 (by decide +kernel) rfl ?_
      refine ay_t_loc (pc := 24) fe_76_24 rfl ?_
      refine ay_t_call (pc := 25) (w := some (.int (rw_at (D 21) 40 x3))) fe_76_25 (ay_args [.ref 20, .int x3] [] rfl rfl (Nat.le_of_ble_eq_true rfl) (Nat.le_of_ble_eq_true rfl)) (ay_rcvV at_20 rfl) (mt_at at_20 at_21 (by decide)) ?_
      refine ay_t_loc (pc := 28) (L' := [some (.ref 1), some (.int x1), some (.int x2), some (.int x3), some (.int (rw_at (D 21) 40 x3)), none]) fe_76_28 rfl ?_
      refine ay_t_loc (pc := 30) fe_76_30 rfl ?_
      refine ay_t_getR (pc := 31) (w := .ref 26) fe_76_31 at_1 (by decide +kernel) rfl ?_
      refine ay_t_loc (pc := 34) fe_76_34 rfl ?_
      refine ay_t_getI (pc := 35) fe_76_35 at_1 (by decide +kernel) rfl ?_
      refine ay_t_loc (pc := 38) fe_76_38 rfl ?_
      refine ay_t_loc (pc := 40) fe_76_40 rfl ?_
      refine ay_t_getR (pc := 41) (w := .ref 8) fe_76_41 at_1 (by decide +kernel) rfl ?_
      refine ay_t_getR (pc := 44) (w := .ref 11) fe_76_44 at_8 (by decide +kernel) rfl ?_
      refine ay_t_loc (pc := 47) fe_76_47 rfl ?_
      refine ay_t_call (pc := 49) (w := some (.int (rw_at (D 12) 12 (rw_at (D 21) 40 x3)))) fe_76_49 (ay_args [.ref 11, .int (rw_at (D 21) 40 x3)] [.int (rw_at (D 21) 40 x3), .int (D 1 0), .ref 26] rfl rfl (Nat.le_of_ble_eq_true rfl) (Nat.le_of_ble_eq_true rfl)) (ay_rcvV at_11 rfl) (mt_at at_11 at_12 (by decide)) ?_
      cases hk4 : fn_72 (D 1 0) (rw_at (D 21) 40 x3) (rw_at (D 12) 12 (rw_at (D 21) 40 x3)) D with
      | none => rw [hk4] at h; cases h
      | some z =>
        obtain ⟨y2, D3⟩ := z
        rw [hk4] at h
        dsimp only at h
        refine ay_t_call (pc := 52) (w := none) fe_76_52 (ay_args [.ref 26, .int (D 1 0), .int (rw_at (D 21) 40 x3), .int (rw_at (D 12) 12 (rw_at (D 21) 40 x3))] [] rfl rfl (Nat.le_of_ble_eq_true rfl) (Nat.le_of_ble_eq_true rfl)) (ay_rcvV at_26 rfl) (ev_72 hk4) ?_
        refine ay_t_loc (pc := 55) fe_76_55 rfl ?_
        refine ay_t_getR (pc := 56) (w := .ref 8) fe_76_56 at_1 (by decide +kernel) rfl ?_
        refine ay_t_loc (pc := 59) fe_76_59 rfl ?_
        cases hk7 : fn_74 (rw_at (D 21) 40 x3) D3 with
        | none => rw [hk7] at h; cases h
        | some z =>
          obtain ⟨y5, D6⟩ := z
          rw [hk7] at h
          dsimp only at h
          refine ay_t_call (pc := 61) (w := some (.int y5)) fe_76_61 (ay_args [.ref 8, .int (rw_at (D 21) 40 x3)] [] rfl rfl (Nat.le_of_ble_eq_true rfl) (Nat.le_of_ble_eq_true rfl)) (ay_rcvV at_8 rfl) (ev_74 hk7) ?_
          refine ay_t_loc (pc := 64) (L' := [some (.ref 1), some (.int x1), some (.int x2), some (.int x3), some (.int (rw_at (D 21) 40 x3)), some (.int y5)]) fe_76_64 rfl ?_
          refine ay_t_loc (pc := 66) fe_76_66 rfl ?_
          refine ay_t_stk (pc := 68) (S' := [.int 20, .int y5]) fe_76_68 rfl ?_
          by_cases hc8 : 20 ≤ y5
          · rw [if_pos hc8] at h
            refine ay_t_pos (pc := 70) hc8 fe_76_70 rfl ?_
            refine ay_t_loc (pc := 90) fe_76_90 rfl ?_
            refine ay_t_getR (pc := 91) (w := .ref 4) fe_76_91 at_1 (by decide +kernel) rfl ?_
            refine ay_t_loc (pc := 94) fe_76_94 rfl ?_
            refine ay_t_stk (pc := 96) (S' := [.int 20, .int y5, .ref 4]) fe_76_96 rfl ?_
            refine ay_t_stk (pc := 98) (S' := [.int (y5 - 20), .ref 4]) fe_76_98 rfl ?_
            refine ay_t_stk (pc := 99) (S' := [.int 1, .int (y5 - 20), .ref 4]) fe_76_99 rfl ?_
            refine ay_t_call (pc := 100) (w := none) fe_76_100 (ay_args [.ref 4, .int (y5 - 20), .int 1] [] rfl rfl (Nat.le_of_ble_eq_true rfl) (Nat.le_of_ble_eq_true rfl)) (ay_rcvV at_4 rfl) (mt_raise at_4 at_5 (by decide)) ?_
            refine ay_t_loc (pc := 103) fe_76_103 rfl ?_
            refine ay_t_getR (pc := 104) (w := .ref 6) fe_76_104 at_1 (by decide +kernel) rfl ?_
            refine ay_t_loc (pc := 107) fe_76_107 rfl ?_
            refine ay_t_stk (pc := 109) (S' := [.int 20, .int y5, .ref 6]) fe_76_109 rfl ?_
            refine ay_t_stk (pc := 111) (S' := [.int (y5 - 20), .ref 6]) fe_76_111 rfl ?_
            refine ay_t_stk (pc := 112) (S' := [.int 1, .int (y5 - 20), .ref 6]) fe_76_112 rfl ?_
            refine ay_t_call (pc := 113) (w := none) fe_76_113 (ay_args [.ref 6, .int (y5 - 20), .int 1] [] rfl rfl (Nat.le_of_ble_eq_true rfl) (Nat.le_of_ble_eq_true rfl)) (ay_rcvV at_6 rfl) (mt_raise at_6 at_7 (by decide)) ?_
            refine ay_t_loc (pc := 116) (L' := [some (.ref 1), some (.int x1), some (.int x2), some (.int (x3 + 1)), some (.int (rw_at (D 21) 40 x3)), some (.int y5)]) fe_76_116 rfl ?_
            refine ay_t_br (pc := 119) (pc' := 12) fe_76_119 rfl ?_
            exact ay_t_less (ay_ls (ay_ls (ay_ls (ay_ls (ay_ln (ay_ln ay_l0)))))) (ih _ _ _ _ _ _ h)
          · rw [if_neg hc8] at h
            refine ay_t_neg (pc := 70) hc8 fe_76_70 rfl ?_
            refine ay_t_loc (pc := 73) fe_76_73 rfl ?_
            refine ay_t_getR (pc := 74) (w := .ref 19) fe_76_74 at_1 (by decide +kernel) rfl ?_
            refine ay_t_loc (pc := 77) fe_76_77 rfl ?_
            refine ay_t_loc (pc := 78) fe_76_78 rfl ?_
            refine ay_t_loc (pc := 79) fe_76_79 rfl ?_
            cases hk11 : fn_75 x3 x2 y5 D6 with
            | none => rw [hk11] at h; cases h
            | some z =>
              obtain ⟨y9, D10⟩ := z
              rw [hk11] at h
              dsimp only at h
              refine ay_t_call (pc := 81) (w := none) fe_76_81 (ay_args [.ref 19, .int x3, .int x2, .int y5] [] rfl rfl (Nat.le_of_ble_eq_true rfl) (Nat.le_of_ble_eq_true rfl)) (ay_rcvV at_19 rfl) (ev_75 hk11) ?_
              refine ay_t_loc (pc := 84) (L' := [some (.ref 1), some (.int x1), some (.int (x2 + 1)), some (.int x3), some (.int (rw_at (D 21) 40 x3)), some (.int y5)]) fe_76_84 rfl ?_
              refine ay_t_br (pc := 87) (pc' := 116) fe_76_87 rfl ?_
              refine ay_t_loc (pc := 116) (L' := [some (.ref 1), some (.int x1), some (.int (x2 + 1)), some (.int (x3 + 1)), some (.int (rw_at (D 21) 40 x3)), some (.int y5)]) fe_76_116 rfl ?_
              refine ay_t_br (pc := 119) (pc' := 12) fe_76_119 rfl ?_
              exact ay_t_less (ay_ls (ay_ls (ay_ls (ay_ls (ay_ln (ay_ln ay_l0)))))) (ih _ _ _ _ _ _ h)
def fn_76 (D : am_DD) : Option (Int32 × am_DD) := fn_76_12 am_F (D 19 0) 0 0 D
set_option maxHeartbeats 2000000 in
theorem ev_76 {D : am_DD} {y : Int32} {Z : am_DD} (h : fn_76  D = some (y, Z)) : ay_mo 76 [.ref 1] D (.inl none) Z := by
  unfold fn_76 at h
  refine ay_m_of (L := [some (.ref 1), none, none, none, none, none]) rfl ?_
  refine ay_t_loc (pc := 0) fe_76_0 rfl ?_
  refine ay_t_getR (pc := 1) (w := .ref 19) fe_76_1 at_1 (by decide +kernel) rfl ?_
  refine ay_t_getI (pc := 4) fe_76_4 at_19 (by decide +kernel) rfl ?_
  refine ay_t_loc (pc := 7) (L' := [some (.ref 1), some (.int (D 19 0)), none, none, none, none]) fe_76_7 rfl ?_
  refine ay_t_stk (pc := 8) (S' := [.int 0]) fe_76_8 rfl ?_
  refine ay_t_loc (pc := 9) (L' := [some (.ref 1), some (.int (D 19 0)), some (.int 0), none, none, none]) fe_76_9 rfl ?_
  refine ay_t_stk (pc := 10) (S' := [.int 0]) fe_76_10 rfl ?_
  refine ay_t_loc (pc := 11) (L' := [some (.ref 1), some (.int (D 19 0)), some (.int 0), some (.int 0), none, none]) fe_76_11 rfl ?_
  exact ay_t_less (ay_ls (ay_ls (ay_ls (ay_ls (ay_ls (ay_ls ay_l0)))))) (ev_76_12 _ _ _ _ _ _ _ h)
def fn_77 (a1 : Int32) (D : am_DD) : Option (Int32 × am_DD) := some (0, (am_upd (rw_put (rw_put (rw_put D 21 40 (D 19 0) 0) 23 40 ((rw_put D 21 40 (D 19 0) 0) 19 0) a1) 25 40 ((rw_put (rw_put D 21 40 (D 19 0) 0) 23 40 ((rw_put D 21 40 (D 19 0) 0) 19 0) a1) 19 0) 0) 19 0 (((rw_put (rw_put (rw_put D 21 40 (D 19 0) 0) 23 40 ((rw_put D 21 40 (D 19 0) 0) 19 0) a1) 25 40 ((rw_put (rw_put D 21 40 (D 19 0) 0) 23 40 ((rw_put D 21 40 (D 19 0) 0) 19 0) a1) 19 0) 0) 19 0) + 1)))
set_option maxHeartbeats 2000000 in
theorem ev_77 {a1 : Int32} {D : am_DD} {y : Int32} {Z : am_DD} (h : fn_77 a1 D = some (y, Z)) : ay_mo 77 [.ref 19, .int a1] D (.inl none) Z := by
  unfold fn_77 at h
  refine ay_m_of (L := [some (.ref 19), some (.int a1)]) rfl ?_
  refine ay_t_loc (pc := 0) fe_77_0 rfl ?_
  refine ay_t_getR (pc := 1) (w := .ref 20) fe_77_1 at_19 (by decide +kernel) rfl ?_
  refine ay_t_loc (pc := 4) fe_77_4 rfl ?_
  refine ay_t_getI (pc := 5) fe_77_5 at_19 (by decide +kernel) rfl ?_
  refine ay_t_stk (pc := 8) (S' := [.int 0, .int (D 19 0), .ref 20]) fe_77_8 rfl ?_
  refine ay_t_call (pc := 9) (w := none) fe_77_9 (ay_args [.ref 20, .int (D 19 0), .int 0] [] rfl rfl (Nat.le_of_ble_eq_true rfl) (Nat.le_of_ble_eq_true rfl)) (ay_rcvV at_20 rfl) (mt_put at_20 at_21 (by decide)) ?_
  refine ay_t_loc (pc := 12) fe_77_12 rfl ?_
  refine ay_t_getR (pc := 13) (w := .ref 22) fe_77_13 at_19 (by decide +kernel) rfl ?_
  refine ay_t_loc (pc := 16) fe_77_16 rfl ?_
  refine ay_t_getI (pc := 17) fe_77_17 at_19 (by decide +kernel) rfl ?_
  refine ay_t_loc (pc := 20) fe_77_20 rfl ?_
  refine ay_t_call (pc := 21) (w := none) fe_77_21 (ay_args [.ref 22, .int ((rw_put D 21 40 (D 19 0) 0) 19 0), .int a1] [] rfl rfl (Nat.le_of_ble_eq_true rfl) (Nat.le_of_ble_eq_true rfl)) (ay_rcvV at_22 rfl) (mt_put at_22 at_23 (by decide)) ?_
  refine ay_t_loc (pc := 24) fe_77_24 rfl ?_
  refine ay_t_getR (pc := 25) (w := .ref 24) fe_77_25 at_19 (by decide +kernel) rfl ?_
  refine ay_t_loc (pc := 28) fe_77_28 rfl ?_
  refine ay_t_getI (pc := 29) fe_77_29 at_19 (by decide +kernel) rfl ?_
  refine ay_t_stk (pc := 32) (S' := [.int 0, .int ((rw_put (rw_put D 21 40 (D 19 0) 0) 23 40 ((rw_put D 21 40 (D 19 0) 0) 19 0) a1) 19 0), .ref 24]) fe_77_32 rfl ?_
  refine ay_t_call (pc := 33) (w := none) fe_77_33 (ay_args [.ref 24, .int ((rw_put (rw_put D 21 40 (D 19 0) 0) 23 40 ((rw_put D 21 40 (D 19 0) 0) 19 0) a1) 19 0), .int 0] [] rfl rfl (Nat.le_of_ble_eq_true rfl) (Nat.le_of_ble_eq_true rfl)) (ay_rcvV at_24 rfl) (mt_put at_24 at_25 (by decide)) ?_
  refine ay_t_loc (pc := 36) fe_77_36 rfl ?_
  refine ay_t_stk (pc := 37) (S' := [.ref 19, .ref 19]) fe_77_37 rfl ?_
  refine ay_t_getI (pc := 38) fe_77_38 at_19 (by decide +kernel) rfl ?_
  refine ay_t_stk (pc := 41) (S' := [.int 1, .int ((rw_put (rw_put (rw_put D 21 40 (D 19 0) 0) 23 40 ((rw_put D 21 40 (D 19 0) 0) 19 0) a1) 25 40 ((rw_put (rw_put D 21 40 (D 19 0) 0) 23 40 ((rw_put D 21 40 (D 19 0) 0) 19 0) a1) 19 0) 0) 19 0), .ref 19]) fe_77_41 rfl ?_
  refine ay_t_stk (pc := 42) (S' := [.int (((rw_put (rw_put (rw_put D 21 40 (D 19 0) 0) 23 40 ((rw_put D 21 40 (D 19 0) 0) 19 0) a1) 25 40 ((rw_put (rw_put D 21 40 (D 19 0) 0) 23 40 ((rw_put D 21 40 (D 19 0) 0) 19 0) a1) 19 0) 0) 19 0) + 1), .ref 19]) fe_77_42 rfl ?_
  refine ay_t_put (pc := 43) fe_77_43 at_19 (by decide +kernel) rfl rfl ?_
  cases h
  exact ay_t_vret fe_77_46 rfl
def fn_78 (D : am_DD) : Option (Int32 × am_DD) := (if (rw_at (D 3) 2 0) ≤ 0 then some (0, D) else (if (rw_at (D 3) 2 0) = 0 then none else (if ¬ ((D 1 0) - (D 1 0) / (rw_at (D 3) 2 0) * (rw_at (D 3) 2 0)) = 0 then some (0, D) else (if (D 1 2) ≤ 0 then some (0, D) else (if (D 1 1) ≤ 0 then some (0, D) else (match fn_36 0 D with | none => none | some (y6, D7) => (if y6 = 0 then some (0, D7) else (match fn_77 ((am_upd (am_upd (am_upd D7 1 1 ((D7 1 1) - 1)) 1 2 (((am_upd D7 1 1 ((D7 1 1) - 1)) 1 2) - 1)) 1 3 (((am_upd (am_upd D7 1 1 ((D7 1 1) - 1)) 1 2 (((am_upd D7 1 1 ((D7 1 1) - 1)) 1 2) - 1)) 1 3) + 1)) 1 0) (am_upd (am_upd (am_upd D7 1 1 ((D7 1 1) - 1)) 1 2 (((am_upd D7 1 1 ((D7 1 1) - 1)) 1 2) - 1)) 1 3 (((am_upd (am_upd D7 1 1 ((D7 1 1) - 1)) 1 2 (((am_upd D7 1 1 ((D7 1 1) - 1)) 1 2) - 1)) 1 3) + 1)) with | none => none | some (y10, D11) => some (0, D11)))))))))
set_option maxHeartbeats 2000000 in
theorem ev_78 {D : am_DD} {y : Int32} {Z : am_DD} (h : fn_78  D = some (y, Z)) : ay_mo 78 [.ref 1] D (.inl none) Z := by
  unfold fn_78 at h
  refine ay_m_of (L := [some (.ref 1), none]) rfl ?_
  refine ay_t_loc (pc := 0) fe_78_0 rfl ?_
  refine ay_t_getR (pc := 1) (w := .ref 2) fe_78_1 at_1 (by decide +kernel) rfl ?_
  refine ay_t_stk (pc := 4) (S' := [.int 0, .ref 2]) fe_78_4 rfl ?_
  refine ay_t_call (pc := 5) (w := some (.int (rw_at (D 3) 2 0))) fe_78_5 (ay_args [.ref 2, .int 0] [] rfl rfl (Nat.le_of_ble_eq_true rfl) (Nat.le_of_ble_eq_true rfl)) (ay_rcvV at_2 rfl) (mt_at at_2 at_3 (by decide)) ?_
  refine ay_t_loc (pc := 8) (L' := [some (.ref 1), some (.int (rw_at (D 3) 2 0))]) fe_78_8 rfl ?_
  refine ay_t_loc (pc := 9) fe_78_9 rfl ?_
  by_cases hc1 : (rw_at (D 3) 2 0) ≤ 0
  · rw [if_pos hc1] at h
    refine ay_t_pos (pc := 10) hc1 fe_78_10 rfl ?_
    cases h
    exact ay_t_vret fe_78_88 rfl
  · rw [if_neg hc1] at h
    refine ay_t_neg (pc := 10) hc1 fe_78_10 rfl ?_
    refine ay_t_loc (pc := 13) fe_78_13 rfl ?_
    refine ay_t_getI (pc := 14) fe_78_14 at_1 (by decide +kernel) rfl ?_
    refine ay_t_loc (pc := 17) fe_78_17 rfl ?_
    by_cases hz2 : (rw_at (D 3) 2 0) = 0
    · rw [if_pos hz2] at h; cases h
    rw [if_neg hz2] at h
    refine ay_t_stk (pc := 18) (S' := [.int ((D 1 0) - (D 1 0) / (rw_at (D 3) 2 0) * (rw_at (D 3) 2 0))]) fe_78_18 (ay_irem hz2) ?_
    by_cases hc3 : ¬ ((D 1 0) - (D 1 0) / (rw_at (D 3) 2 0) * (rw_at (D 3) 2 0)) = 0
    · rw [if_pos hc3] at h
      refine ay_t_pos (pc := 19) hc3 fe_78_19 rfl ?_
      cases h
      exact ay_t_vret fe_78_88 rfl
    · rw [if_neg hc3] at h
      refine ay_t_neg (pc := 19) hc3 fe_78_19 rfl ?_
      refine ay_t_loc (pc := 22) fe_78_22 rfl ?_
      refine ay_t_getI (pc := 23) fe_78_23 at_1 (by decide +kernel) rfl ?_
      by_cases hc4 : (D 1 2) ≤ 0
      · rw [if_pos hc4] at h
        refine ay_t_pos (pc := 26) hc4 fe_78_26 rfl ?_
        cases h
        exact ay_t_vret fe_78_88 rfl
      · rw [if_neg hc4] at h
        refine ay_t_neg (pc := 26) hc4 fe_78_26 rfl ?_
        refine ay_t_loc (pc := 29) fe_78_29 rfl ?_
        refine ay_t_getI (pc := 30) fe_78_30 at_1 (by decide +kernel) rfl ?_
        by_cases hc5 : (D 1 1) ≤ 0
        · rw [if_pos hc5] at h
          refine ay_t_pos (pc := 33) hc5 fe_78_33 rfl ?_
          cases h
          exact ay_t_vret fe_78_88 rfl
        · rw [if_neg hc5] at h
          refine ay_t_neg (pc := 33) hc5 fe_78_33 rfl ?_
          refine ay_t_loc (pc := 36) fe_78_36 rfl ?_
          refine ay_t_getR (pc := 37) (w := .ref 8) fe_78_37 at_1 (by decide +kernel) rfl ?_
          refine ay_t_stk (pc := 40) (S' := [.int 0, .ref 8]) fe_78_40 rfl ?_
          cases hk8 : fn_36 0 D with
          | none => rw [hk8] at h; cases h
          | some z =>
            obtain ⟨y6, D7⟩ := z
            rw [hk8] at h
            dsimp only at h
            refine ay_t_call (pc := 41) (w := some (.int y6)) fe_78_41 (ay_args [.ref 8, .int 0] [] rfl rfl (Nat.le_of_ble_eq_true rfl) (Nat.le_of_ble_eq_true rfl)) (ay_rcvV at_8 rfl) (ev_36 hk8) ?_
            by_cases hc9 : y6 = 0
            · rw [if_pos hc9] at h
              refine ay_t_pos (pc := 44) hc9 fe_78_44 rfl ?_
              cases h
              exact ay_t_vret fe_78_88 rfl
            · rw [if_neg hc9] at h
              refine ay_t_neg (pc := 44) hc9 fe_78_44 rfl ?_
              refine ay_t_loc (pc := 47) fe_78_47 rfl ?_
              refine ay_t_stk (pc := 48) (S' := [.ref 1, .ref 1]) fe_78_48 rfl ?_
              refine ay_t_getI (pc := 49) fe_78_49 at_1 (by decide +kernel) rfl ?_
              refine ay_t_stk (pc := 52) (S' := [.int 1, .int (D7 1 1), .ref 1]) fe_78_52 rfl ?_
              refine ay_t_stk (pc := 53) (S' := [.int ((D7 1 1) - 1), .ref 1]) fe_78_53 rfl ?_
              refine ay_t_put (pc := 54) fe_78_54 at_1 (by decide +kernel) rfl rfl ?_
              refine ay_t_loc (pc := 57) fe_78_57 rfl ?_
              refine ay_t_stk (pc := 58) (S' := [.ref 1, .ref 1]) fe_78_58 rfl ?_
              refine ay_t_getI (pc := 59) fe_78_59 at_1 (by decide +kernel) rfl ?_
              refine ay_t_stk (pc := 62) (S' := [.int 1, .int ((am_upd D7 1 1 ((D7 1 1) - 1)) 1 2), .ref 1]) fe_78_62 rfl ?_
              refine ay_t_stk (pc := 63) (S' := [.int (((am_upd D7 1 1 ((D7 1 1) - 1)) 1 2) - 1), .ref 1]) fe_78_63 rfl ?_
              refine ay_t_put (pc := 64) fe_78_64 at_1 (by decide +kernel) rfl rfl ?_
              refine ay_t_loc (pc := 67) fe_78_67 rfl ?_
              refine ay_t_stk (pc := 68) (S' := [.ref 1, .ref 1]) fe_78_68 rfl ?_
              refine ay_t_getI (pc := 69) fe_78_69 at_1 (by decide +kernel) rfl ?_
              refine ay_t_stk (pc := 72) (S' := [.int 1, .int ((am_upd (am_upd D7 1 1 ((D7 1 1) - 1)) 1 2 (((am_upd D7 1 1 ((D7 1 1) - 1)) 1 2) - 1)) 1 3), .ref 1]) fe_78_72 rfl ?_
              refine ay_t_stk (pc := 73) (S' := [.int (((am_upd (am_upd D7 1 1 ((D7 1 1) - 1)) 1 2 (((am_upd D7 1 1 ((D7 1 1) - 1)) 1 2) - 1)) 1 3) + 1), .ref 1]) fe_78_73 rfl ?_
              refine ay_t_put (pc := 74) fe_78_74 at_1 (by decide +kernel) rfl rfl ?_
              refine ay_t_loc (pc := 77) fe_78_77 rfl ?_
              refine ay_t_getR (pc := 78) (w := .ref 19) fe_78_78 at_1 (by decide +kernel) rfl ?_
              refine ay_t_loc (pc := 81) fe_78_81 rfl ?_
              refine ay_t_getI (pc := 82) fe_78_82 at_1 (by decide +kernel) rfl ?_
              cases hk12 : fn_77 ((am_upd (am_upd (am_upd D7 1 1 ((D7 1 1) - 1)) 1 2 (((am_upd D7 1 1 ((D7 1 1) - 1)) 1 2) - 1)) 1 3 (((am_upd (am_upd D7 1 1 ((D7 1 1) - 1)) 1 2 (((am_upd D7 1 1 ((D7 1 1) - 1)) 1 2) - 1)) 1 3) + 1)) 1 0) (am_upd (am_upd (am_upd D7 1 1 ((D7 1 1) - 1)) 1 2 (((am_upd D7 1 1 ((D7 1 1) - 1)) 1 2) - 1)) 1 3 (((am_upd (am_upd D7 1 1 ((D7 1 1) - 1)) 1 2 (((am_upd D7 1 1 ((D7 1 1) - 1)) 1 2) - 1)) 1 3) + 1)) with
              | none => rw [hk12] at h; cases h
              | some z =>
                obtain ⟨y10, D11⟩ := z
                rw [hk12] at h
                dsimp only at h
                refine ay_t_call (pc := 85) (w := none) fe_78_85 (ay_args [.ref 19, .int ((am_upd (am_upd (am_upd D7 1 1 ((D7 1 1) - 1)) 1 2 (((am_upd D7 1 1 ((D7 1 1) - 1)) 1 2) - 1)) 1 3 (((am_upd (am_upd D7 1 1 ((D7 1 1) - 1)) 1 2 (((am_upd D7 1 1 ((D7 1 1) - 1)) 1 2) - 1)) 1 3) + 1)) 1 0)] [] rfl rfl (Nat.le_of_ble_eq_true rfl) (Nat.le_of_ble_eq_true rfl)) (ay_rcvV at_19 rfl) (ev_77 hk12) ?_
                cases h
                exact ay_t_vret fe_78_88 rfl
def fn_79_4 : Nat → Int32 → Int32 → am_DD → Option (Int32 × am_DD)
  | 0, _, _, _ => none
  | n + 1, x1, x2, D => (if 5 ≤ x2 then (if (rw_at (D 5) 5 x1) < (rw_at (D 3) 2 1) then some (0, D) else some (0, (am_upd (am_upd (rw_raise D 5 5 x1 (-1)) 1 1 (((rw_raise D 5 5 x1 (-1)) 1 1) + 1)) 1 4 (((am_upd (rw_raise D 5 5 x1 (-1)) 1 1 (((rw_raise D 5 5 x1 (-1)) 1 1) + 1)) 1 4) + 1)))) else (if (rw_at (D 5) 5 x2) ≤ (rw_at (D 5) 5 x1) then fn_79_4 n x1 (x2 + 1) D else fn_79_4 n x2 (x2 + 1) D))
set_option maxHeartbeats 2000000 in
theorem ev_79_4 : ∀ (n : Nat) (x1 x2 : Int32) (D : am_DD) (y : Int32) (Z : am_DD), fn_79_4 n x1 x2 D = some (y, Z) → ay_to 79 4 [some (.ref 1), some (.int x1), some (.int x2)] [] D (.inl none) Z := by
  intro n
  induction n with
  | zero => intro x1 x2 D y Z h; cases h
  | succ n ih =>
    intro x1 x2 D y Z h
    rw [fn_79_4] at h
    refine ay_t_loc (pc := 4) fe_79_4 rfl ?_
    refine ay_t_stk (pc := 5) (S' := [.int 5, .int x2]) fe_79_5 rfl ?_
    by_cases hc1 : 5 ≤ x2
    · rw [if_pos hc1] at h
      refine ay_t_pos (pc := 6) hc1 fe_79_6 rfl ?_
      refine ay_t_loc (pc := 36) fe_79_36 rfl ?_
      refine ay_t_getR (pc := 37) (w := .ref 4) fe_79_37 at_1 (by decide +kernel) rfl ?_
      refine ay_t_loc (pc := 40) fe_79_40 rfl ?_
      refine ay_t_call (pc := 41) (w := some (.int (rw_at (D 5) 5 x1))) fe_79_41 (ay_args [.ref 4, .int x1] [] rfl rfl (Nat.le_of_ble_eq_true rfl) (Nat.le_of_ble_eq_true rfl)) (ay_rcvV at_4 rfl) (mt_at at_4 at_5 (by decide)) ?_
      refine ay_t_loc (pc := 44) fe_79_44 rfl ?_
      refine ay_t_getR (pc := 45) (w := .ref 2) fe_79_45 at_1 (by decide +kernel) rfl ?_
      refine ay_t_stk (pc := 48) (S' := [.int 1, .ref 2, .int (rw_at (D 5) 5 x1)]) fe_79_48 rfl ?_
      refine ay_t_call (pc := 49) (w := some (.int (rw_at (D 3) 2 1))) fe_79_49 (ay_args [.ref 2, .int 1] [.int (rw_at (D 5) 5 x1)] rfl rfl (Nat.le_of_ble_eq_true rfl) (Nat.le_of_ble_eq_true rfl)) (ay_rcvV at_2 rfl) (mt_at at_2 at_3 (by decide)) ?_
      by_cases hc2 : (rw_at (D 5) 5 x1) < (rw_at (D 3) 2 1)
      · rw [if_pos hc2] at h
        refine ay_t_pos (pc := 52) hc2 fe_79_52 rfl ?_
        cases h
        exact ay_t_vret fe_79_84 rfl
      · rw [if_neg hc2] at h
        refine ay_t_neg (pc := 52) hc2 fe_79_52 rfl ?_
        refine ay_t_loc (pc := 55) fe_79_55 rfl ?_
        refine ay_t_getR (pc := 56) (w := .ref 4) fe_79_56 at_1 (by decide +kernel) rfl ?_
        refine ay_t_loc (pc := 59) fe_79_59 rfl ?_
        refine ay_t_stk (pc := 60) (S' := [.int (-1), .int x1, .ref 4]) fe_79_60 rfl ?_
        refine ay_t_call (pc := 61) (w := none) fe_79_61 (ay_args [.ref 4, .int x1, .int (-1)] [] rfl rfl (Nat.le_of_ble_eq_true rfl) (Nat.le_of_ble_eq_true rfl)) (ay_rcvV at_4 rfl) (mt_raise at_4 at_5 (by decide)) ?_
        refine ay_t_loc (pc := 64) fe_79_64 rfl ?_
        refine ay_t_stk (pc := 65) (S' := [.ref 1, .ref 1]) fe_79_65 rfl ?_
        refine ay_t_getI (pc := 66) fe_79_66 at_1 (by decide +kernel) rfl ?_
        refine ay_t_stk (pc := 69) (S' := [.int 1, .int ((rw_raise D 5 5 x1 (-1)) 1 1), .ref 1]) fe_79_69 rfl ?_
        refine ay_t_stk (pc := 70) (S' := [.int (((rw_raise D 5 5 x1 (-1)) 1 1) + 1), .ref 1]) fe_79_70 rfl ?_
        refine ay_t_put (pc := 71) fe_79_71 at_1 (by decide +kernel) rfl rfl ?_
        refine ay_t_loc (pc := 74) fe_79_74 rfl ?_
        refine ay_t_stk (pc := 75) (S' := [.ref 1, .ref 1]) fe_79_75 rfl ?_
        refine ay_t_getI (pc := 76) fe_79_76 at_1 (by decide +kernel) rfl ?_
        refine ay_t_stk (pc := 79) (S' := [.int 1, .int ((am_upd (rw_raise D 5 5 x1 (-1)) 1 1 (((rw_raise D 5 5 x1 (-1)) 1 1) + 1)) 1 4), .ref 1]) fe_79_79 rfl ?_
        refine ay_t_stk (pc := 80) (S' := [.int (((am_upd (rw_raise D 5 5 x1 (-1)) 1 1 (((rw_raise D 5 5 x1 (-1)) 1 1) + 1)) 1 4) + 1), .ref 1]) fe_79_80 rfl ?_
        refine ay_t_put (pc := 81) fe_79_81 at_1 (by decide +kernel) rfl rfl ?_
        cases h
        exact ay_t_vret fe_79_84 rfl
    · rw [if_neg hc1] at h
      refine ay_t_neg (pc := 6) hc1 fe_79_6 rfl ?_
      refine ay_t_loc (pc := 9) fe_79_9 rfl ?_
      refine ay_t_getR (pc := 10) (w := .ref 4) fe_79_10 at_1 (by decide +kernel) rfl ?_
      refine ay_t_loc (pc := 13) fe_79_13 rfl ?_
      refine ay_t_call (pc := 14) (w := some (.int (rw_at (D 5) 5 x2))) fe_79_14 (ay_args [.ref 4, .int x2] [] rfl rfl (Nat.le_of_ble_eq_true rfl) (Nat.le_of_ble_eq_true rfl)) (ay_rcvV at_4 rfl) (mt_at at_4 at_5 (by decide)) ?_
      refine ay_t_loc (pc := 17) fe_79_17 rfl ?_
      refine ay_t_getR (pc := 18) (w := .ref 4) fe_79_18 at_1 (by decide +kernel) rfl ?_
      refine ay_t_loc (pc := 21) fe_79_21 rfl ?_
      refine ay_t_call (pc := 22) (w := some (.int (rw_at (D 5) 5 x1))) fe_79_22 (ay_args [.ref 4, .int x1] [.int (rw_at (D 5) 5 x2)] rfl rfl (Nat.le_of_ble_eq_true rfl) (Nat.le_of_ble_eq_true rfl)) (ay_rcvV at_4 rfl) (mt_at at_4 at_5 (by decide)) ?_
      by_cases hc3 : (rw_at (D 5) 5 x2) ≤ (rw_at (D 5) 5 x1)
      · rw [if_pos hc3] at h
        refine ay_t_pos (pc := 25) hc3 fe_79_25 rfl ?_
        refine ay_t_loc (pc := 30) (L' := [some (.ref 1), some (.int x1), some (.int (x2 + 1))]) fe_79_30 rfl ?_
        refine ay_t_br (pc := 33) (pc' := 4) fe_79_33 rfl ?_
        exact ay_t_less (ay_ls (ay_ls (ay_ls ay_l0))) (ih _ _ _ _ _ h)
      · rw [if_neg hc3] at h
        refine ay_t_neg (pc := 25) hc3 fe_79_25 rfl ?_
        refine ay_t_loc (pc := 28) fe_79_28 rfl ?_
        refine ay_t_loc (pc := 29) (L' := [some (.ref 1), some (.int x2), some (.int x2)]) fe_79_29 rfl ?_
        refine ay_t_loc (pc := 30) (L' := [some (.ref 1), some (.int x2), some (.int (x2 + 1))]) fe_79_30 rfl ?_
        refine ay_t_br (pc := 33) (pc' := 4) fe_79_33 rfl ?_
        exact ay_t_less (ay_ls (ay_ls (ay_ls ay_l0))) (ih _ _ _ _ _ h)
def fn_79 (D : am_DD) : Option (Int32 × am_DD) := fn_79_4 am_F 0 1 D
set_option maxHeartbeats 2000000 in
theorem ev_79 {D : am_DD} {y : Int32} {Z : am_DD} (h : fn_79  D = some (y, Z)) : ay_mo 79 [.ref 1] D (.inl none) Z := by
  unfold fn_79 at h
  refine ay_m_of (L := [some (.ref 1), none, none]) rfl ?_
  refine ay_t_stk (pc := 0) (S' := [.int 0]) fe_79_0 rfl ?_
  refine ay_t_loc (pc := 1) (L' := [some (.ref 1), some (.int 0), none]) fe_79_1 rfl ?_
  refine ay_t_stk (pc := 2) (S' := [.int 1]) fe_79_2 rfl ?_
  refine ay_t_loc (pc := 3) (L' := [some (.ref 1), some (.int 0), some (.int 1)]) fe_79_3 rfl ?_
  exact ay_t_less (ay_ls (ay_ls (ay_ls ay_l0))) (ev_79_4 _ _ _ _ _ _ h)
def fn_80_10 : Nat → Int32 → Int32 → Int32 → am_DD → Option (Int32 × am_DD)
  | 0, _, _, _, _ => none
  | n + 1, x1, x2, x3, D => (if x1 ≤ x3 then some (((D 26 2) - x2), D) else (match fn_76 (am_upd D 1 0 ((D 1 0) + 1)) with | none => none | some (y2, D3) => (match fn_78 D3 with | none => none | some (y5, D6) => (match fn_79 D6 with | none => none | some (y8, D9) => fn_80_10 n x1 x2 (x3 + 1) D9))))
set_option maxHeartbeats 2000000 in
theorem ev_80_10 : ∀ (n : Nat) (x1 x2 x3 : Int32) (D : am_DD) (y : Int32) (Z : am_DD), fn_80_10 n x1 x2 x3 D = some (y, Z) → ay_to 80 10 [some (.ref 1), some (.int x1), some (.int x2), some (.int x3)] [] D (.inl (some (.int y))) Z := by
  intro n
  induction n with
  | zero => intro x1 x2 x3 D y Z h; cases h
  | succ n ih =>
    intro x1 x2 x3 D y Z h
    rw [fn_80_10] at h
    refine ay_t_loc (pc := 10) fe_80_10 rfl ?_
    refine ay_t_loc (pc := 11) fe_80_11 rfl ?_
    by_cases hc1 : x1 ≤ x3
    · rw [if_pos hc1] at h
      refine ay_t_pos (pc := 12) hc1 fe_80_12 rfl ?_
      refine ay_t_loc (pc := 43) fe_80_43 rfl ?_
      refine ay_t_getR (pc := 44) (w := .ref 26) fe_80_44 at_1 (by decide +kernel) rfl ?_
      refine ay_t_getI (pc := 47) fe_80_47 at_26 (by decide +kernel) rfl ?_
      refine ay_t_loc (pc := 50) fe_80_50 rfl ?_
      refine ay_t_stk (pc := 51) (S' := [.int ((D 26 2) - x2)]) fe_80_51 rfl ?_
      cases h
      exact ay_t_iret fe_80_52 rfl rfl
    · rw [if_neg hc1] at h
      refine ay_t_neg (pc := 12) hc1 fe_80_12 rfl ?_
      refine ay_t_loc (pc := 15) fe_80_15 rfl ?_
      refine ay_t_stk (pc := 16) (S' := [.ref 1, .ref 1]) fe_80_16 rfl ?_
      refine ay_t_getI (pc := 17) fe_80_17 at_1 (by decide +kernel) rfl ?_
      refine ay_t_stk (pc := 20) (S' := [.int 1, .int (D 1 0), .ref 1]) fe_80_20 rfl ?_
      refine ay_t_stk (pc := 21) (S' := [.int ((D 1 0) + 1), .ref 1]) fe_80_21 rfl ?_
      refine ay_t_put (pc := 22) fe_80_22 at_1 (by decide +kernel) rfl rfl ?_
      refine ay_t_loc (pc := 25) fe_80_25 rfl ?_
      cases hk4 : fn_76 (am_upd D 1 0 ((D 1 0) + 1)) with
      | none => rw [hk4] at h; cases h
      | some z =>
        obtain ⟨y2, D3⟩ := z
        rw [hk4] at h
        dsimp only at h
        refine ay_t_call (pc := 26) (w := none) fe_80_26 (ay_args [.ref 1] [] rfl rfl (Nat.le_of_ble_eq_true rfl) (Nat.le_of_ble_eq_true rfl)) (ay_rcvV at_1 rfl) (ev_76 hk4) ?_
        refine ay_t_loc (pc := 29) fe_80_29 rfl ?_
        cases hk7 : fn_78 D3 with
        | none => rw [hk7] at h; cases h
        | some z =>
          obtain ⟨y5, D6⟩ := z
          rw [hk7] at h
          dsimp only at h
          refine ay_t_call (pc := 30) (w := none) fe_80_30 (ay_args [.ref 1] [] rfl rfl (Nat.le_of_ble_eq_true rfl) (Nat.le_of_ble_eq_true rfl)) (ay_rcvV at_1 rfl) (ev_78 hk7) ?_
          refine ay_t_loc (pc := 33) fe_80_33 rfl ?_
          cases hk10 : fn_79 D6 with
          | none => rw [hk10] at h; cases h
          | some z =>
            obtain ⟨y8, D9⟩ := z
            rw [hk10] at h
            dsimp only at h
            refine ay_t_call (pc := 34) (w := none) fe_80_34 (ay_args [.ref 1] [] rfl rfl (Nat.le_of_ble_eq_true rfl) (Nat.le_of_ble_eq_true rfl)) (ay_rcvV at_1 rfl) (ev_79 hk10) ?_
            refine ay_t_loc (pc := 37) (L' := [some (.ref 1), some (.int x1), some (.int x2), some (.int (x3 + 1))]) fe_80_37 rfl ?_
            refine ay_t_br (pc := 40) (pc' := 10) fe_80_40 rfl ?_
            exact ay_t_less (ay_ls (ay_ls (ay_ls (ay_ls ay_l0)))) (ih _ _ _ _ _ _ h)
def fn_80 (a1 : Int32) (D : am_DD) : Option (Int32 × am_DD) := fn_80_10 am_F a1 (D 26 2) 0 D
set_option maxHeartbeats 2000000 in
theorem ev_80 {a1 : Int32} {D : am_DD} {y : Int32} {Z : am_DD} (h : fn_80 a1 D = some (y, Z)) : ay_mo 80 [.ref 1, .int a1] D (.inl (some (.int y))) Z := by
  unfold fn_80 at h
  refine ay_m_of (L := [some (.ref 1), some (.int a1), none, none]) rfl ?_
  refine ay_t_loc (pc := 0) fe_80_0 rfl ?_
  refine ay_t_getR (pc := 1) (w := .ref 26) fe_80_1 at_1 (by decide +kernel) rfl ?_
  refine ay_t_getI (pc := 4) fe_80_4 at_26 (by decide +kernel) rfl ?_
  refine ay_t_loc (pc := 7) (L' := [some (.ref 1), some (.int a1), some (.int (D 26 2)), none]) fe_80_7 rfl ?_
  refine ay_t_stk (pc := 8) (S' := [.int 0]) fe_80_8 rfl ?_
  refine ay_t_loc (pc := 9) (L' := [some (.ref 1), some (.int a1), some (.int (D 26 2)), some (.int 0)]) fe_80_9 rfl ?_
  exact ay_t_less (ay_ls (ay_ls (ay_ls (ay_ls ay_l0)))) (ev_80_10 _ _ _ _ _ _ _ h)
def fn_81 (a1 : Int32) (D : am_DD) : Option (Int32 × Nat × am_DD) := (if a1 < 1 then some (0, 1, D) else (if a1 ≤ 50 then (match fn_22 D with | none => none | some (y3, D4) => (match fn_80 a1 D4 with | none => none | some (y6, D7) => some (y6, 0, D7))) else some (0, 1, D)))
set_option maxHeartbeats 2000000 in
theorem ev_81 {a1 : Int32} {D : am_DD} {y : Int32} {k : Nat} {Z : am_DD} (h : fn_81 a1 D = some (y, k, Z)) : ay_mo 81 [.ref 0, .int a1] D (ay_oc y k) Z := by
  unfold fn_81 at h
  refine ay_m_of (L := [some (.ref 0), some (.int a1)]) rfl ?_
  refine ay_t_loc (pc := 0) fe_81_0 rfl ?_
  refine ay_t_stk (pc := 1) (S' := [.int 1, .int a1]) fe_81_1 rfl ?_
  by_cases hc1 : a1 < 1
  · rw [if_pos hc1] at h
    refine ay_t_pos (pc := 2) hc1 fe_81_2 rfl ?_
    cases h
    exact ay_t_thr fe_81_11 (by decide)
  · rw [if_neg hc1] at h
    refine ay_t_neg (pc := 2) hc1 fe_81_2 rfl ?_
    refine ay_t_loc (pc := 5) fe_81_5 rfl ?_
    refine ay_t_stk (pc := 6) (S' := [.int 50, .int a1]) fe_81_6 rfl ?_
    by_cases hc2 : a1 ≤ 50
    · rw [if_pos hc2] at h
      refine ay_t_pos (pc := 8) hc2 fe_81_8 rfl ?_
      refine ay_t_loc (pc := 21) fe_81_21 rfl ?_
      refine ay_t_getR (pc := 22) (w := .ref 56) fe_81_22 at_0 (by decide +kernel) rfl ?_
      refine ay_t_loc (pc := 25) fe_81_25 rfl ?_
      refine ay_t_getR (pc := 26) (w := .ref 1) fe_81_26 at_0 (by decide +kernel) rfl ?_
      cases hk5 : fn_22 D with
      | none => rw [hk5] at h; cases h
      | some z =>
        obtain ⟨y3, D4⟩ := z
        rw [hk5] at h
        dsimp only at h
        refine ay_t_call (pc := 29) (w := none) fe_81_29 (ay_args [.ref 56, .ref 1] [] rfl rfl (Nat.le_of_ble_eq_true rfl) (Nat.le_of_ble_eq_true rfl)) (ay_rcvV at_56 rfl) (ev_22 hk5) ?_
        refine ay_t_loc (pc := 32) fe_81_32 rfl ?_
        refine ay_t_getR (pc := 33) (w := .ref 1) fe_81_33 at_0 (by decide +kernel) rfl ?_
        refine ay_t_loc (pc := 36) fe_81_36 rfl ?_
        cases hk8 : fn_80 a1 D4 with
        | none => rw [hk8] at h; cases h
        | some z =>
          obtain ⟨y6, D7⟩ := z
          rw [hk8] at h
          dsimp only at h
          refine ay_t_call (pc := 37) (w := some (.int y6)) fe_81_37 (ay_args [.ref 1, .int a1] [] rfl rfl (Nat.le_of_ble_eq_true rfl) (Nat.le_of_ble_eq_true rfl)) (ay_rcvV at_1 rfl) (ev_80 hk8) ?_
          cases h
          exact ay_t_iret fe_81_40 rfl rfl
    · rw [if_neg hc2] at h
      refine ay_t_neg (pc := 8) hc2 fe_81_8 rfl ?_
      cases h
      exact ay_t_thr fe_81_11 (by decide)
def fn_83_16 : Nat → Int32 → Int32 → am_DD → Option (Int32 × am_DD)
  | 0, _, _, _ => none
  | n + 1, x1, x2, D => (if 402 ≤ x2 then (if ((225 + (3 * ((am_upd D 322 10 ((D 322 10) - 1)) 322 10))) + 0) < 0 ∨ 405 ≤ ((225 + (3 * ((am_upd D 322 10 ((D 322 10) - 1)) 322 10))) + 0).toNatClampNeg then none else (if ((225 + (3 * ((am_upd D 322 10 ((D 322 10) - 1)) 322 10))) + 1) < 0 ∨ 405 ≤ ((225 + (3 * ((am_upd D 322 10 ((D 322 10) - 1)) 322 10))) + 1).toNatClampNeg then none else (match fn_48 x1 1 (am_upd (am_upd (am_upd D 322 10 ((D 322 10) - 1)) 322 ((225 + (3 * ((am_upd D 322 10 ((D 322 10) - 1)) 322 10))) + 0).toNatClampNeg ((am_upd D 322 10 ((D 322 10) - 1)) 322 0)) 322 ((225 + (3 * ((am_upd D 322 10 ((D 322 10) - 1)) 322 10))) + 1).toNatClampNeg x1) with | none => none | some (y11, D12) => (if ((225 + (3 * ((am_upd D 322 10 ((D 322 10) - 1)) 322 10))) + 2) < 0 ∨ 405 ≤ ((225 + (3 * ((am_upd D 322 10 ((D 322 10) - 1)) 322 10))) + 2).toNatClampNeg then none else some (0, (am_upd (am_upd (am_upd D12 322 ((225 + (3 * ((am_upd D 322 10 ((D 322 10) - 1)) 322 10))) + 2).toNatClampNeg y11) 322 10 (((am_upd D12 322 ((225 + (3 * ((am_upd D 322 10 ((D 322 10) - 1)) 322 10))) + 2).toNatClampNeg y11) 322 10) + 1)) 322 9 (((am_upd (am_upd D12 322 ((225 + (3 * ((am_upd D 322 10 ((D 322 10) - 1)) 322 10))) + 2).toNatClampNeg y11) 322 10 (((am_upd D12 322 ((225 + (3 * ((am_upd D 322 10 ((D 322 10) - 1)) 322 10))) + 2).toNatClampNeg y11) 322 10) + 1)) 322 9) + 1))))))) else (if (x2 + 3) < 0 ∨ 405 ≤ (x2 + 3).toNatClampNeg then none else (if x2 < 0 ∨ 405 ≤ x2.toNatClampNeg then none else fn_83_16 n x1 (x2 + 1) (am_upd D 322 x2.toNatClampNeg (D 322 (x2 + 3).toNatClampNeg)))))
set_option maxHeartbeats 2000000 in
theorem ev_83_16 : ∀ (n : Nat) (x1 x2 : Int32) (D : am_DD) (y : Int32) (Z : am_DD), fn_83_16 n x1 x2 D = some (y, Z) → ay_to 83 16 [some (.ref 321), some (.int x1), some (.int x2)] [] D (.inl none) Z := by
  intro n
  induction n with
  | zero => intro x1 x2 D y Z h; cases h
  | succ n ih =>
    intro x1 x2 D y Z h
    rw [fn_83_16] at h
    refine ay_t_loc (pc := 16) fe_83_16 rfl ?_
    refine ay_t_stk (pc := 17) (S' := [.int 402, .int x2]) fe_83_17 rfl ?_
    by_cases hc8 : 402 ≤ x2
    · rw [if_pos hc8] at h
      refine ay_t_pos (pc := 20) hc8 fe_83_20 rfl ?_
      refine ay_t_loc (pc := 43) fe_83_43 rfl ?_
      refine ay_t_getR (pc := 44) (w := .ref 322) fe_83_44 at_321 (by decide +kernel) rfl ?_
      refine ay_t_stk (pc := 47) (S' := [.int 10, .ref 322]) fe_83_47 rfl ?_
      refine ay_t_stk (pc := 49) (S' := [.int 10, .ref 322, .int 10, .ref 322]) fe_83_49 rfl ?_
      refine ay_t_ialoadk (pc := 50) (k := 10) fe_83_50 at_322 (by decide) (by decide) (by decide) ?_
      refine ay_t_stk (pc := 51) (S' := [.int 1, .int (D 322 10), .int 10, .ref 322]) fe_83_51 rfl ?_
      refine ay_t_stk (pc := 52) (S' := [.int ((D 322 10) - 1), .int 10, .ref 322]) fe_83_52 rfl ?_
      refine ay_t_iastorek (pc := 53) (k := 10) fe_83_53 at_322 (by decide) (by decide) ?_
      refine ay_t_stk (pc := 54) (S' := [.int 225]) fe_83_54 rfl ?_
      refine ay_t_stk (pc := 57) (S' := [.int 3, .int 225]) fe_83_57 rfl ?_
      refine ay_t_loc (pc := 58) fe_83_58 rfl ?_
      refine ay_t_getR (pc := 59) (w := .ref 322) fe_83_59 at_321 (by decide +kernel) rfl ?_
      refine ay_t_stk (pc := 62) (S' := [.int 10, .ref 322, .int 3, .int 225]) fe_83_62 rfl ?_
      refine ay_t_ialoadk (pc := 64) (k := 10) fe_83_64 at_322 (by decide) (by decide) (by decide) ?_
      refine ay_t_stk (pc := 65) (S' := [.int (3 * ((am_upd D 322 10 ((D 322 10) - 1)) 322 10)), .int 225]) fe_83_65 rfl ?_
      refine ay_t_stk (pc := 66) (S' := [.int (225 + (3 * ((am_upd D 322 10 ((D 322 10) - 1)) 322 10)))]) fe_83_66 rfl ?_
      refine ay_t_loc (pc := 67) (L' := [some (.ref 321), some (.int x1), some (.int (225 + (3 * ((am_upd D 322 10 ((D 322 10) - 1)) 322 10))))]) fe_83_67 rfl ?_
      refine ay_t_loc (pc := 68) fe_83_68 rfl ?_
      refine ay_t_getR (pc := 69) (w := .ref 322) fe_83_69 at_321 (by decide +kernel) rfl ?_
      refine ay_t_loc (pc := 72) fe_83_72 rfl ?_
      refine ay_t_stk (pc := 73) (S' := [.int 0, .int (225 + (3 * ((am_upd D 322 10 ((D 322 10) - 1)) 322 10))), .ref 322]) fe_83_73 rfl ?_
      refine ay_t_stk (pc := 74) (S' := [.int ((225 + (3 * ((am_upd D 322 10 ((D 322 10) - 1)) 322 10))) + 0), .ref 322]) fe_83_74 rfl ?_
      refine ay_t_loc (pc := 75) fe_83_75 rfl ?_
      refine ay_t_getR (pc := 76) (w := .ref 322) fe_83_76 at_321 (by decide +kernel) rfl ?_
      refine ay_t_stk (pc := 79) (S' := [.int 0, .ref 322, .int ((225 + (3 * ((am_upd D 322 10 ((D 322 10) - 1)) 322 10))) + 0), .ref 322]) fe_83_79 rfl ?_
      refine ay_t_ialoadk (pc := 80) (k := 0) fe_83_80 at_322 (by decide) (by decide) (by decide) ?_
      by_cases hb9 : ((225 + (3 * ((am_upd D 322 10 ((D 322 10) - 1)) 322 10))) + 0) < 0 ∨ 405 ≤ ((225 + (3 * ((am_upd D 322 10 ((D 322 10) - 1)) 322 10))) + 0).toNatClampNeg
      · rw [if_pos hb9] at h; cases h
      rw [if_neg hb9] at h
      refine ay_t_iastore (pc := 81) fe_83_81 at_322 hb9 ?_
      refine ay_t_loc (pc := 82) fe_83_82 rfl ?_
      refine ay_t_getR (pc := 83) (w := .ref 322) fe_83_83 at_321 (by decide +kernel) rfl ?_
      refine ay_t_loc (pc := 86) fe_83_86 rfl ?_
      refine ay_t_stk (pc := 87) (S' := [.int 1, .int (225 + (3 * ((am_upd D 322 10 ((D 322 10) - 1)) 322 10))), .ref 322]) fe_83_87 rfl ?_
      refine ay_t_stk (pc := 88) (S' := [.int ((225 + (3 * ((am_upd D 322 10 ((D 322 10) - 1)) 322 10))) + 1), .ref 322]) fe_83_88 rfl ?_
      refine ay_t_loc (pc := 89) fe_83_89 rfl ?_
      by_cases hb10 : ((225 + (3 * ((am_upd D 322 10 ((D 322 10) - 1)) 322 10))) + 1) < 0 ∨ 405 ≤ ((225 + (3 * ((am_upd D 322 10 ((D 322 10) - 1)) 322 10))) + 1).toNatClampNeg
      · rw [if_pos hb10] at h; cases h
      rw [if_neg hb10] at h
      refine ay_t_iastore (pc := 90) fe_83_90 at_322 hb10 ?_
      refine ay_t_loc (pc := 91) fe_83_91 rfl ?_
      refine ay_t_getR (pc := 92) (w := .ref 322) fe_83_92 at_321 (by decide +kernel) rfl ?_
      refine ay_t_loc (pc := 95) fe_83_95 rfl ?_
      refine ay_t_stk (pc := 96) (S' := [.int 2, .int (225 + (3 * ((am_upd D 322 10 ((D 322 10) - 1)) 322 10))), .ref 322]) fe_83_96 rfl ?_
      refine ay_t_stk (pc := 97) (S' := [.int ((225 + (3 * ((am_upd D 322 10 ((D 322 10) - 1)) 322 10))) + 2), .ref 322]) fe_83_97 rfl ?_
      refine ay_t_loc (pc := 98) fe_83_98 rfl ?_
      refine ay_t_loc (pc := 99) fe_83_99 rfl ?_
      refine ay_t_stk (pc := 100) (S' := [.int 1, .int x1, .ref 321, .int ((225 + (3 * ((am_upd D 322 10 ((D 322 10) - 1)) 322 10))) + 2), .ref 322]) fe_83_100 rfl ?_
      cases hk13 : fn_48 x1 1 (am_upd (am_upd (am_upd D 322 10 ((D 322 10) - 1)) 322 ((225 + (3 * ((am_upd D 322 10 ((D 322 10) - 1)) 322 10))) + 0).toNatClampNeg ((am_upd D 322 10 ((D 322 10) - 1)) 322 0)) 322 ((225 + (3 * ((am_upd D 322 10 ((D 322 10) - 1)) 322 10))) + 1).toNatClampNeg x1) with
      | none => rw [hk13] at h; cases h
      | some z =>
        obtain ⟨y11, D12⟩ := z
        rw [hk13] at h
        dsimp only at h
        refine ay_t_call (pc := 101) (w := some (.int y11)) fe_83_101 (ay_args [.ref 321, .int x1, .int 1] [.int ((225 + (3 * ((am_upd D 322 10 ((D 322 10) - 1)) 322 10))) + 2), .ref 322] rfl rfl (Nat.le_of_ble_eq_true rfl) (Nat.le_of_ble_eq_true rfl)) (ay_rcvV at_321 rfl) (ev_48 hk13) ?_
        by_cases hb14 : ((225 + (3 * ((am_upd D 322 10 ((D 322 10) - 1)) 322 10))) + 2) < 0 ∨ 405 ≤ ((225 + (3 * ((am_upd D 322 10 ((D 322 10) - 1)) 322 10))) + 2).toNatClampNeg
        · rw [if_pos hb14] at h; cases h
        rw [if_neg hb14] at h
        refine ay_t_iastore (pc := 104) fe_83_104 at_322 hb14 ?_
        refine ay_t_loc (pc := 105) fe_83_105 rfl ?_
        refine ay_t_getR (pc := 106) (w := .ref 322) fe_83_106 at_321 (by decide +kernel) rfl ?_
        refine ay_t_stk (pc := 109) (S' := [.int 10, .ref 322]) fe_83_109 rfl ?_
        refine ay_t_stk (pc := 111) (S' := [.int 10, .ref 322, .int 10, .ref 322]) fe_83_111 rfl ?_
        refine ay_t_ialoadk (pc := 112) (k := 10) fe_83_112 at_322 (by decide) (by decide) (by decide) ?_
        refine ay_t_stk (pc := 113) (S' := [.int 1, .int ((am_upd D12 322 ((225 + (3 * ((am_upd D 322 10 ((D 322 10) - 1)) 322 10))) + 2).toNatClampNeg y11) 322 10), .int 10, .ref 322]) fe_83_113 rfl ?_
        refine ay_t_stk (pc := 114) (S' := [.int (((am_upd D12 322 ((225 + (3 * ((am_upd D 322 10 ((D 322 10) - 1)) 322 10))) + 2).toNatClampNeg y11) 322 10) + 1), .int 10, .ref 322]) fe_83_114 rfl ?_
        refine ay_t_iastorek (pc := 115) (k := 10) fe_83_115 at_322 (by decide) (by decide) ?_
        refine ay_t_loc (pc := 116) fe_83_116 rfl ?_
        refine ay_t_getR (pc := 117) (w := .ref 322) fe_83_117 at_321 (by decide +kernel) rfl ?_
        refine ay_t_stk (pc := 120) (S' := [.int 9, .ref 322]) fe_83_120 rfl ?_
        refine ay_t_stk (pc := 122) (S' := [.int 9, .ref 322, .int 9, .ref 322]) fe_83_122 rfl ?_
        refine ay_t_ialoadk (pc := 123) (k := 9) fe_83_123 at_322 (by decide) (by decide) (by decide) ?_
        refine ay_t_stk (pc := 124) (S' := [.int 1, .int ((am_upd (am_upd D12 322 ((225 + (3 * ((am_upd D 322 10 ((D 322 10) - 1)) 322 10))) + 2).toNatClampNeg y11) 322 10 (((am_upd D12 322 ((225 + (3 * ((am_upd D 322 10 ((D 322 10) - 1)) 322 10))) + 2).toNatClampNeg y11) 322 10) + 1)) 322 9), .int 9, .ref 322]) fe_83_124 rfl ?_
        refine ay_t_stk (pc := 125) (S' := [.int (((am_upd (am_upd D12 322 ((225 + (3 * ((am_upd D 322 10 ((D 322 10) - 1)) 322 10))) + 2).toNatClampNeg y11) 322 10 (((am_upd D12 322 ((225 + (3 * ((am_upd D 322 10 ((D 322 10) - 1)) 322 10))) + 2).toNatClampNeg y11) 322 10) + 1)) 322 9) + 1), .int 9, .ref 322]) fe_83_125 rfl ?_
        refine ay_t_iastorek (pc := 126) (k := 9) fe_83_126 at_322 (by decide) (by decide) ?_
        cases h
        exact ay_t_vret fe_83_127 rfl
    · rw [if_neg hc8] at h
      refine ay_t_neg (pc := 20) hc8 fe_83_20 rfl ?_
      refine ay_t_loc (pc := 23) fe_83_23 rfl ?_
      refine ay_t_getR (pc := 24) (w := .ref 322) fe_83_24 at_321 (by decide +kernel) rfl ?_
      refine ay_t_loc (pc := 27) fe_83_27 rfl ?_
      refine ay_t_loc (pc := 28) fe_83_28 rfl ?_
      refine ay_t_getR (pc := 29) (w := .ref 322) fe_83_29 at_321 (by decide +kernel) rfl ?_
      refine ay_t_loc (pc := 32) fe_83_32 rfl ?_
      refine ay_t_stk (pc := 33) (S' := [.int 3, .int x2, .ref 322, .int x2, .ref 322]) fe_83_33 rfl ?_
      refine ay_t_stk (pc := 34) (S' := [.int (x2 + 3), .ref 322, .int x2, .ref 322]) fe_83_34 rfl ?_
      by_cases hb15 : (x2 + 3) < 0 ∨ 405 ≤ (x2 + 3).toNatClampNeg
      · rw [if_pos hb15] at h; cases h
      rw [if_neg hb15] at h
      refine ay_t_iaload (pc := 35) fe_83_35 at_322 (by decide) hb15 ?_
      by_cases hb16 : x2 < 0 ∨ 405 ≤ x2.toNatClampNeg
      · rw [if_pos hb16] at h; cases h
      rw [if_neg hb16] at h
      refine ay_t_iastore (pc := 36) fe_83_36 at_322 hb16 ?_
      refine ay_t_loc (pc := 37) (L' := [some (.ref 321), some (.int x1), some (.int (x2 + 1))]) fe_83_37 rfl ?_
      refine ay_t_br (pc := 40) (pc' := 16) fe_83_40 rfl ?_
      exact ay_t_less (ay_ls (ay_ls (ay_ls ay_l0))) (ih _ _ _ _ _ h)
def fn_83 (a1 : Int32) (D : am_DD) : Option (Int32 × am_DD) := (if ¬ (D 322 10) = 60 then (if ((225 + (3 * (D 322 10))) + 0) < 0 ∨ 405 ≤ ((225 + (3 * (D 322 10))) + 0).toNatClampNeg then none else (if ((225 + (3 * (D 322 10))) + 1) < 0 ∨ 405 ≤ ((225 + (3 * (D 322 10))) + 1).toNatClampNeg then none else (match fn_48 a1 1 (am_upd (am_upd D 322 ((225 + (3 * (D 322 10))) + 0).toNatClampNeg (D 322 0)) 322 ((225 + (3 * (D 322 10))) + 1).toNatClampNeg a1) with | none => none | some (y4, D5) => (if ((225 + (3 * (D 322 10))) + 2) < 0 ∨ 405 ≤ ((225 + (3 * (D 322 10))) + 2).toNatClampNeg then none else some (0, (am_upd (am_upd (am_upd D5 322 ((225 + (3 * (D 322 10))) + 2).toNatClampNeg y4) 322 10 (((am_upd D5 322 ((225 + (3 * (D 322 10))) + 2).toNatClampNeg y4) 322 10) + 1)) 322 9 (((am_upd (am_upd D5 322 ((225 + (3 * (D 322 10))) + 2).toNatClampNeg y4) 322 10 (((am_upd D5 322 ((225 + (3 * (D 322 10))) + 2).toNatClampNeg y4) 322 10) + 1)) 322 9) + 1))))))) else fn_83_16 am_F a1 225 D)
set_option maxHeartbeats 2000000 in
theorem ev_83 {a1 : Int32} {D : am_DD} {y : Int32} {Z : am_DD} (h : fn_83 a1 D = some (y, Z)) : ay_mo 83 [.ref 321, .int a1] D (.inl none) Z := by
  unfold fn_83 at h
  refine ay_m_of (L := [some (.ref 321), some (.int a1), none]) rfl ?_
  refine ay_t_loc (pc := 0) fe_83_0 rfl ?_
  refine ay_t_getR (pc := 1) (w := .ref 322) fe_83_1 at_321 (by decide +kernel) rfl ?_
  refine ay_t_stk (pc := 4) (S' := [.int 10, .ref 322]) fe_83_4 rfl ?_
  refine ay_t_ialoadk (pc := 6) (k := 10) fe_83_6 at_322 (by decide) (by decide) (by decide) ?_
  refine ay_t_stk (pc := 7) (S' := [.int 60, .int (D 322 10)]) fe_83_7 rfl ?_
  by_cases hc1 : ¬ (D 322 10) = 60
  · rw [if_pos hc1] at h
    refine ay_t_pos (pc := 9) hc1 fe_83_9 rfl ?_
    refine ay_t_stk (pc := 54) (S' := [.int 225]) fe_83_54 rfl ?_
    refine ay_t_stk (pc := 57) (S' := [.int 3, .int 225]) fe_83_57 rfl ?_
    refine ay_t_loc (pc := 58) fe_83_58 rfl ?_
    refine ay_t_getR (pc := 59) (w := .ref 322) fe_83_59 at_321 (by decide +kernel) rfl ?_
    refine ay_t_stk (pc := 62) (S' := [.int 10, .ref 322, .int 3, .int 225]) fe_83_62 rfl ?_
    refine ay_t_ialoadk (pc := 64) (k := 10) fe_83_64 at_322 (by decide) (by decide) (by decide) ?_
    refine ay_t_stk (pc := 65) (S' := [.int (3 * (D 322 10)), .int 225]) fe_83_65 rfl ?_
    refine ay_t_stk (pc := 66) (S' := [.int (225 + (3 * (D 322 10)))]) fe_83_66 rfl ?_
    refine ay_t_loc (pc := 67) (L' := [some (.ref 321), some (.int a1), some (.int (225 + (3 * (D 322 10))))]) fe_83_67 rfl ?_
    refine ay_t_loc (pc := 68) fe_83_68 rfl ?_
    refine ay_t_getR (pc := 69) (w := .ref 322) fe_83_69 at_321 (by decide +kernel) rfl ?_
    refine ay_t_loc (pc := 72) fe_83_72 rfl ?_
    refine ay_t_stk (pc := 73) (S' := [.int 0, .int (225 + (3 * (D 322 10))), .ref 322]) fe_83_73 rfl ?_
    refine ay_t_stk (pc := 74) (S' := [.int ((225 + (3 * (D 322 10))) + 0), .ref 322]) fe_83_74 rfl ?_
    refine ay_t_loc (pc := 75) fe_83_75 rfl ?_
    refine ay_t_getR (pc := 76) (w := .ref 322) fe_83_76 at_321 (by decide +kernel) rfl ?_
    refine ay_t_stk (pc := 79) (S' := [.int 0, .ref 322, .int ((225 + (3 * (D 322 10))) + 0), .ref 322]) fe_83_79 rfl ?_
    refine ay_t_ialoadk (pc := 80) (k := 0) fe_83_80 at_322 (by decide) (by decide) (by decide) ?_
    by_cases hb2 : ((225 + (3 * (D 322 10))) + 0) < 0 ∨ 405 ≤ ((225 + (3 * (D 322 10))) + 0).toNatClampNeg
    · rw [if_pos hb2] at h; cases h
    rw [if_neg hb2] at h
    refine ay_t_iastore (pc := 81) fe_83_81 at_322 hb2 ?_
    refine ay_t_loc (pc := 82) fe_83_82 rfl ?_
    refine ay_t_getR (pc := 83) (w := .ref 322) fe_83_83 at_321 (by decide +kernel) rfl ?_
    refine ay_t_loc (pc := 86) fe_83_86 rfl ?_
    refine ay_t_stk (pc := 87) (S' := [.int 1, .int (225 + (3 * (D 322 10))), .ref 322]) fe_83_87 rfl ?_
    refine ay_t_stk (pc := 88) (S' := [.int ((225 + (3 * (D 322 10))) + 1), .ref 322]) fe_83_88 rfl ?_
    refine ay_t_loc (pc := 89) fe_83_89 rfl ?_
    by_cases hb3 : ((225 + (3 * (D 322 10))) + 1) < 0 ∨ 405 ≤ ((225 + (3 * (D 322 10))) + 1).toNatClampNeg
    · rw [if_pos hb3] at h; cases h
    rw [if_neg hb3] at h
    refine ay_t_iastore (pc := 90) fe_83_90 at_322 hb3 ?_
    refine ay_t_loc (pc := 91) fe_83_91 rfl ?_
    refine ay_t_getR (pc := 92) (w := .ref 322) fe_83_92 at_321 (by decide +kernel) rfl ?_
    refine ay_t_loc (pc := 95) fe_83_95 rfl ?_
    refine ay_t_stk (pc := 96) (S' := [.int 2, .int (225 + (3 * (D 322 10))), .ref 322]) fe_83_96 rfl ?_
    refine ay_t_stk (pc := 97) (S' := [.int ((225 + (3 * (D 322 10))) + 2), .ref 322]) fe_83_97 rfl ?_
    refine ay_t_loc (pc := 98) fe_83_98 rfl ?_
    refine ay_t_loc (pc := 99) fe_83_99 rfl ?_
    refine ay_t_stk (pc := 100) (S' := [.int 1, .int a1, .ref 321, .int ((225 + (3 * (D 322 10))) + 2), .ref 322]) fe_83_100 rfl ?_
    cases hk6 : fn_48 a1 1 (am_upd (am_upd D 322 ((225 + (3 * (D 322 10))) + 0).toNatClampNeg (D 322 0)) 322 ((225 + (3 * (D 322 10))) + 1).toNatClampNeg a1) with
    | none => rw [hk6] at h; cases h
    | some z =>
      obtain ⟨y4, D5⟩ := z
      rw [hk6] at h
      dsimp only at h
      refine ay_t_call (pc := 101) (w := some (.int y4)) fe_83_101 (ay_args [.ref 321, .int a1, .int 1] [.int ((225 + (3 * (D 322 10))) + 2), .ref 322] rfl rfl (Nat.le_of_ble_eq_true rfl) (Nat.le_of_ble_eq_true rfl)) (ay_rcvV at_321 rfl) (ev_48 hk6) ?_
      by_cases hb7 : ((225 + (3 * (D 322 10))) + 2) < 0 ∨ 405 ≤ ((225 + (3 * (D 322 10))) + 2).toNatClampNeg
      · rw [if_pos hb7] at h; cases h
      rw [if_neg hb7] at h
      refine ay_t_iastore (pc := 104) fe_83_104 at_322 hb7 ?_
      refine ay_t_loc (pc := 105) fe_83_105 rfl ?_
      refine ay_t_getR (pc := 106) (w := .ref 322) fe_83_106 at_321 (by decide +kernel) rfl ?_
      refine ay_t_stk (pc := 109) (S' := [.int 10, .ref 322]) fe_83_109 rfl ?_
      refine ay_t_stk (pc := 111) (S' := [.int 10, .ref 322, .int 10, .ref 322]) fe_83_111 rfl ?_
      refine ay_t_ialoadk (pc := 112) (k := 10) fe_83_112 at_322 (by decide) (by decide) (by decide) ?_
      refine ay_t_stk (pc := 113) (S' := [.int 1, .int ((am_upd D5 322 ((225 + (3 * (D 322 10))) + 2).toNatClampNeg y4) 322 10), .int 10, .ref 322]) fe_83_113 rfl ?_
      refine ay_t_stk (pc := 114) (S' := [.int (((am_upd D5 322 ((225 + (3 * (D 322 10))) + 2).toNatClampNeg y4) 322 10) + 1), .int 10, .ref 322]) fe_83_114 rfl ?_
      refine ay_t_iastorek (pc := 115) (k := 10) fe_83_115 at_322 (by decide) (by decide) ?_
      refine ay_t_loc (pc := 116) fe_83_116 rfl ?_
      refine ay_t_getR (pc := 117) (w := .ref 322) fe_83_117 at_321 (by decide +kernel) rfl ?_
      refine ay_t_stk (pc := 120) (S' := [.int 9, .ref 322]) fe_83_120 rfl ?_
      refine ay_t_stk (pc := 122) (S' := [.int 9, .ref 322, .int 9, .ref 322]) fe_83_122 rfl ?_
      refine ay_t_ialoadk (pc := 123) (k := 9) fe_83_123 at_322 (by decide) (by decide) (by decide) ?_
      refine ay_t_stk (pc := 124) (S' := [.int 1, .int ((am_upd (am_upd D5 322 ((225 + (3 * (D 322 10))) + 2).toNatClampNeg y4) 322 10 (((am_upd D5 322 ((225 + (3 * (D 322 10))) + 2).toNatClampNeg y4) 322 10) + 1)) 322 9), .int 9, .ref 322]) fe_83_124 rfl ?_
      refine ay_t_stk (pc := 125) (S' := [.int (((am_upd (am_upd D5 322 ((225 + (3 * (D 322 10))) + 2).toNatClampNeg y4) 322 10 (((am_upd D5 322 ((225 + (3 * (D 322 10))) + 2).toNatClampNeg y4) 322 10) + 1)) 322 9) + 1), .int 9, .ref 322]) fe_83_125 rfl ?_
      refine ay_t_iastorek (pc := 126) (k := 9) fe_83_126 at_322 (by decide) (by decide) ?_
      cases h
      exact ay_t_vret fe_83_127 rfl
  · rw [if_neg hc1] at h
    refine ay_t_neg (pc := 9) hc1 fe_83_9 rfl ?_
    refine ay_t_stk (pc := 12) (S' := [.int 225]) fe_83_12 rfl ?_
    refine ay_t_loc (pc := 15) (L' := [some (.ref 321), some (.int a1), some (.int 225)]) fe_83_15 rfl ?_
    exact ay_t_less (ay_ls (ay_ls (ay_ls ay_l0))) (ev_83_16 _ _ _ _ _ _ h)
def fn_84 (a1 : Int32) (D : am_DD) : Option (Int32 × am_DD) := (if ((105 + (3 * a1)) + 0) < 0 ∨ 405 ≤ ((105 + (3 * a1)) + 0).toNatClampNeg then none else (match fn_48 (D 322 ((105 + (3 * a1)) + 0).toNatClampNeg) 0 D with | none => none | some (y2, D3) => (match fn_83 (D 322 ((105 + (3 * a1)) + 0).toNatClampNeg) D3 with | none => none | some (y5, D6) => (match fn_48 (D 322 ((105 + (3 * a1)) + 0).toNatClampNeg) (4 + y2) D6 with | none => none | some (y8, D9) => (match fn_32 (D 322 ((105 + (3 * a1)) + 0).toNatClampNeg) (4 + y2) (y8 + 1) D9 with | none => none | some (y11, D12) => (match fn_32 (D 322 ((105 + (3 * a1)) + 0).toNatClampNeg) 0 (1 - y2) D12 with | none => none | some (y14, D15) => (match fn_48 (D 322 ((105 + (3 * a1)) + 0).toNatClampNeg) (2 + y2) D15 with | none => none | some (y17, D18) => (if ((105 + (3 * a1)) + 0) < 0 ∨ 405 ≤ ((105 + (3 * a1)) + 0).toNatClampNeg then none else (if ((105 + (3 * a1)) + 2) < 0 ∨ 405 ≤ ((105 + (3 * a1)) + 2).toNatClampNeg then none else (if ((105 + (3 * a1)) + 2) < 0 ∨ 405 ≤ ((105 + (3 * a1)) + 2).toNatClampNeg then none else (if ((105 + (3 * a1)) + 0) < 0 ∨ 405 ≤ ((105 + (3 * a1)) + 0).toNatClampNeg then none else some (((am_upd (am_upd D18 322 ((105 + (3 * a1)) + 0).toNatClampNeg y17) 322 ((105 + (3 * a1)) + 2).toNatClampNeg (((am_upd D18 322 ((105 + (3 * a1)) + 0).toNatClampNeg y17) 322 ((105 + (3 * a1)) + 2).toNatClampNeg) + 1)) 322 ((105 + (3 * a1)) + 0).toNatClampNeg), (am_upd (am_upd D18 322 ((105 + (3 * a1)) + 0).toNatClampNeg y17) 322 ((105 + (3 * a1)) + 2).toNatClampNeg (((am_upd D18 322 ((105 + (3 * a1)) + 0).toNatClampNeg y17) 322 ((105 + (3 * a1)) + 2).toNatClampNeg) + 1))))))))))))))
set_option maxHeartbeats 2000000 in
theorem ev_84 {a1 : Int32} {D : am_DD} {y : Int32} {Z : am_DD} (h : fn_84 a1 D = some (y, Z)) : ay_mo 84 [.ref 321, .int a1] D (.inl (some (.int y))) Z := by
  unfold fn_84 at h
  refine ay_m_of (L := [some (.ref 321), some (.int a1), none, none, none]) rfl ?_
  refine ay_t_stk (pc := 0) (S' := [.int 105]) fe_84_0 rfl ?_
  refine ay_t_stk (pc := 2) (S' := [.int 3, .int 105]) fe_84_2 rfl ?_
  refine ay_t_loc (pc := 3) fe_84_3 rfl ?_
  refine ay_t_stk (pc := 4) (S' := [.int (3 * a1), .int 105]) fe_84_4 rfl ?_
  refine ay_t_stk (pc := 5) (S' := [.int (105 + (3 * a1))]) fe_84_5 rfl ?_
  refine ay_t_loc (pc := 6) (L' := [some (.ref 321), some (.int a1), some (.int (105 + (3 * a1))), none, none]) fe_84_6 rfl ?_
  refine ay_t_loc (pc := 7) fe_84_7 rfl ?_
  refine ay_t_getR (pc := 8) (w := .ref 322) fe_84_8 at_321 (by decide +kernel) rfl ?_
  refine ay_t_loc (pc := 11) fe_84_11 rfl ?_
  refine ay_t_stk (pc := 12) (S' := [.int 0, .int (105 + (3 * a1)), .ref 322]) fe_84_12 rfl ?_
  refine ay_t_stk (pc := 13) (S' := [.int ((105 + (3 * a1)) + 0), .ref 322]) fe_84_13 rfl ?_
  by_cases hb1 : ((105 + (3 * a1)) + 0) < 0 ∨ 405 ≤ ((105 + (3 * a1)) + 0).toNatClampNeg
  · rw [if_pos hb1] at h; cases h
  rw [if_neg hb1] at h
  refine ay_t_iaload (pc := 14) fe_84_14 at_322 (by decide) hb1 ?_
  refine ay_t_loc (pc := 15) (L' := [some (.ref 321), some (.int a1), some (.int (105 + (3 * a1))), some (.int (D 322 ((105 + (3 * a1)) + 0).toNatClampNeg)), none]) fe_84_15 rfl ?_
  refine ay_t_loc (pc := 16) fe_84_16 rfl ?_
  refine ay_t_loc (pc := 17) fe_84_17 rfl ?_
  refine ay_t_stk (pc := 18) (S' := [.int 0, .int (D 322 ((105 + (3 * a1)) + 0).toNatClampNeg), .ref 321]) fe_84_18 rfl ?_
  cases hk4 : fn_48 (D 322 ((105 + (3 * a1)) + 0).toNatClampNeg) 0 D with
  | none => rw [hk4] at h; cases h
  | some z =>
    obtain ⟨y2, D3⟩ := z
    rw [hk4] at h
    dsimp only at h
    refine ay_t_call (pc := 19) (w := some (.int y2)) fe_84_19 (ay_args [.ref 321, .int (D 322 ((105 + (3 * a1)) + 0).toNatClampNeg), .int 0] [] rfl rfl (Nat.le_of_ble_eq_true rfl) (Nat.le_of_ble_eq_true rfl)) (ay_rcvV at_321 rfl) (ev_48 hk4) ?_
    refine ay_t_loc (pc := 22) (L' := [some (.ref 321), some (.int a1), some (.int (105 + (3 * a1))), some (.int (D 322 ((105 + (3 * a1)) + 0).toNatClampNeg)), some (.int y2)]) fe_84_22 rfl ?_
    refine ay_t_loc (pc := 24) fe_84_24 rfl ?_
    refine ay_t_loc (pc := 25) fe_84_25 rfl ?_
    cases hk7 : fn_83 (D 322 ((105 + (3 * a1)) + 0).toNatClampNeg) D3 with
    | none => rw [hk7] at h; cases h
    | some z =>
      obtain ⟨y5, D6⟩ := z
      rw [hk7] at h
      dsimp only at h
      refine ay_t_call (pc := 26) (w := none) fe_84_26 (ay_args [.ref 321, .int (D 322 ((105 + (3 * a1)) + 0).toNatClampNeg)] [] rfl rfl (Nat.le_of_ble_eq_true rfl) (Nat.le_of_ble_eq_true rfl)) (ay_rcvV at_321 rfl) (ev_83 hk7) ?_
      refine ay_t_loc (pc := 29) fe_84_29 rfl ?_
      refine ay_t_loc (pc := 30) fe_84_30 rfl ?_
      refine ay_t_stk (pc := 31) (S' := [.int 4, .int (D 322 ((105 + (3 * a1)) + 0).toNatClampNeg), .ref 321]) fe_84_31 rfl ?_
      refine ay_t_loc (pc := 32) fe_84_32 rfl ?_
      refine ay_t_stk (pc := 34) (S' := [.int (4 + y2), .int (D 322 ((105 + (3 * a1)) + 0).toNatClampNeg), .ref 321]) fe_84_34 rfl ?_
      refine ay_t_loc (pc := 35) fe_84_35 rfl ?_
      refine ay_t_loc (pc := 36) fe_84_36 rfl ?_
      refine ay_t_stk (pc := 37) (S' := [.int 4, .int (D 322 ((105 + (3 * a1)) + 0).toNatClampNeg), .ref 321, .int (4 + y2), .int (D 322 ((105 + (3 * a1)) + 0).toNatClampNeg), .ref 321]) fe_84_37 rfl ?_
      refine ay_t_loc (pc := 38) fe_84_38 rfl ?_
      refine ay_t_stk (pc := 40) (S' := [.int (4 + y2), .int (D 322 ((105 + (3 * a1)) + 0).toNatClampNeg), .ref 321, .int (4 + y2), .int (D 322 ((105 + (3 * a1)) + 0).toNatClampNeg), .ref 321]) fe_84_40 rfl ?_
      cases hk10 : fn_48 (D 322 ((105 + (3 * a1)) + 0).toNatClampNeg) (4 + y2) D6 with
      | none => rw [hk10] at h; cases h
      | some z =>
        obtain ⟨y8, D9⟩ := z
        rw [hk10] at h
        dsimp only at h
        refine ay_t_call (pc := 41) (w := some (.int y8)) fe_84_41 (ay_args [.ref 321, .int (D 322 ((105 + (3 * a1)) + 0).toNatClampNeg), .int (4 + y2)] [.int (4 + y2), .int (D 322 ((105 + (3 * a1)) + 0).toNatClampNeg), .ref 321] rfl rfl (Nat.le_of_ble_eq_true rfl) (Nat.le_of_ble_eq_true rfl)) (ay_rcvV at_321 rfl) (ev_48 hk10) ?_
        refine ay_t_stk (pc := 44) (S' := [.int 1, .int y8, .int (4 + y2), .int (D 322 ((105 + (3 * a1)) + 0).toNatClampNeg), .ref 321]) fe_84_44 rfl ?_
        refine ay_t_stk (pc := 45) (S' := [.int (y8 + 1), .int (4 + y2), .int (D 322 ((105 + (3 * a1)) + 0).toNatClampNeg), .ref 321]) fe_84_45 rfl ?_
        cases hk13 : fn_32 (D 322 ((105 + (3 * a1)) + 0).toNatClampNeg) (4 + y2) (y8 + 1) D9 with
        | none => rw [hk13] at h; cases h
        | some z =>
          obtain ⟨y11, D12⟩ := z
          rw [hk13] at h
          dsimp only at h
          refine ay_t_call (pc := 46) (w := none) fe_84_46 (ay_args [.ref 321, .int (D 322 ((105 + (3 * a1)) + 0).toNatClampNeg), .int (4 + y2), .int (y8 + 1)] [] rfl rfl (Nat.le_of_ble_eq_true rfl) (Nat.le_of_ble_eq_true rfl)) (ay_rcvV at_321 rfl) (ev_32 hk13) ?_
          refine ay_t_loc (pc := 49) fe_84_49 rfl ?_
          refine ay_t_loc (pc := 50) fe_84_50 rfl ?_
          refine ay_t_stk (pc := 51) (S' := [.int 0, .int (D 322 ((105 + (3 * a1)) + 0).toNatClampNeg), .ref 321]) fe_84_51 rfl ?_
          refine ay_t_stk (pc := 52) (S' := [.int 1, .int 0, .int (D 322 ((105 + (3 * a1)) + 0).toNatClampNeg), .ref 321]) fe_84_52 rfl ?_
          refine ay_t_loc (pc := 53) fe_84_53 rfl ?_
          refine ay_t_stk (pc := 55) (S' := [.int (1 - y2), .int 0, .int (D 322 ((105 + (3 * a1)) + 0).toNatClampNeg), .ref 321]) fe_84_55 rfl ?_
          cases hk16 : fn_32 (D 322 ((105 + (3 * a1)) + 0).toNatClampNeg) 0 (1 - y2) D12 with
          | none => rw [hk16] at h; cases h
          | some z =>
            obtain ⟨y14, D15⟩ := z
            rw [hk16] at h
            dsimp only at h
            refine ay_t_call (pc := 56) (w := none) fe_84_56 (ay_args [.ref 321, .int (D 322 ((105 + (3 * a1)) + 0).toNatClampNeg), .int 0, .int (1 - y2)] [] rfl rfl (Nat.le_of_ble_eq_true rfl) (Nat.le_of_ble_eq_true rfl)) (ay_rcvV at_321 rfl) (ev_32 hk16) ?_
            refine ay_t_loc (pc := 59) fe_84_59 rfl ?_
            refine ay_t_getR (pc := 60) (w := .ref 322) fe_84_60 at_321 (by decide +kernel) rfl ?_
            refine ay_t_loc (pc := 63) fe_84_63 rfl ?_
            refine ay_t_stk (pc := 64) (S' := [.int 0, .int (105 + (3 * a1)), .ref 322]) fe_84_64 rfl ?_
            refine ay_t_stk (pc := 65) (S' := [.int ((105 + (3 * a1)) + 0), .ref 322]) fe_84_65 rfl ?_
            refine ay_t_loc (pc := 66) fe_84_66 rfl ?_
            refine ay_t_loc (pc := 67) fe_84_67 rfl ?_
            refine ay_t_stk (pc := 68) (S' := [.int 2, .int (D 322 ((105 + (3 * a1)) + 0).toNatClampNeg), .ref 321, .int ((105 + (3 * a1)) + 0), .ref 322]) fe_84_68 rfl ?_
            refine ay_t_loc (pc := 69) fe_84_69 rfl ?_
            refine ay_t_stk (pc := 71) (S' := [.int (2 + y2), .int (D 322 ((105 + (3 * a1)) + 0).toNatClampNeg), .ref 321, .int ((105 + (3 * a1)) + 0), .ref 322]) fe_84_71 rfl ?_
            cases hk19 : fn_48 (D 322 ((105 + (3 * a1)) + 0).toNatClampNeg) (2 + y2) D15 with
            | none => rw [hk19] at h; cases h
            | some z =>
              obtain ⟨y17, D18⟩ := z
              rw [hk19] at h
              dsimp only at h
              refine ay_t_call (pc := 72) (w := some (.int y17)) fe_84_72 (ay_args [.ref 321, .int (D 322 ((105 + (3 * a1)) + 0).toNatClampNeg), .int (2 + y2)] [.int ((105 + (3 * a1)) + 0), .ref 322] rfl rfl (Nat.le_of_ble_eq_true rfl) (Nat.le_of_ble_eq_true rfl)) (ay_rcvV at_321 rfl) (ev_48 hk19) ?_
              by_cases hb20 : ((105 + (3 * a1)) + 0) < 0 ∨ 405 ≤ ((105 + (3 * a1)) + 0).toNatClampNeg
              · rw [if_pos hb20] at h; cases h
              rw [if_neg hb20] at h
              refine ay_t_iastore (pc := 75) fe_84_75 at_322 hb20 ?_
              refine ay_t_loc (pc := 76) fe_84_76 rfl ?_
              refine ay_t_getR (pc := 77) (w := .ref 322) fe_84_77 at_321 (by decide +kernel) rfl ?_
              refine ay_t_loc (pc := 80) fe_84_80 rfl ?_
              refine ay_t_stk (pc := 81) (S' := [.int 2, .int (105 + (3 * a1)), .ref 322]) fe_84_81 rfl ?_
              refine ay_t_stk (pc := 82) (S' := [.int ((105 + (3 * a1)) + 2), .ref 322]) fe_84_82 rfl ?_
              refine ay_t_stk (pc := 83) (S' := [.int ((105 + (3 * a1)) + 2), .ref 322, .int ((105 + (3 * a1)) + 2), .ref 322]) fe_84_83 rfl ?_
              by_cases hb21 : ((105 + (3 * a1)) + 2) < 0 ∨ 405 ≤ ((105 + (3 * a1)) + 2).toNatClampNeg
              · rw [if_pos hb21] at h; cases h
              rw [if_neg hb21] at h
              refine ay_t_iaload (pc := 84) fe_84_84 at_322 (by decide) hb21 ?_
              refine ay_t_stk (pc := 85) (S' := [.int 1, .int ((am_upd D18 322 ((105 + (3 * a1)) + 0).toNatClampNeg y17) 322 ((105 + (3 * a1)) + 2).toNatClampNeg), .int ((105 + (3 * a1)) + 2), .ref 322]) fe_84_85 rfl ?_
              refine ay_t_stk (pc := 86) (S' := [.int (((am_upd D18 322 ((105 + (3 * a1)) + 0).toNatClampNeg y17) 322 ((105 + (3 * a1)) + 2).toNatClampNeg) + 1), .int ((105 + (3 * a1)) + 2), .ref 322]) fe_84_86 rfl ?_
              by_cases hb22 : ((105 + (3 * a1)) + 2) < 0 ∨ 405 ≤ ((105 + (3 * a1)) + 2).toNatClampNeg
              · rw [if_pos hb22] at h; cases h
              rw [if_neg hb22] at h
              refine ay_t_iastore (pc := 87) fe_84_87 at_322 hb22 ?_
              refine ay_t_loc (pc := 88) fe_84_88 rfl ?_
              refine ay_t_getR (pc := 89) (w := .ref 322) fe_84_89 at_321 (by decide +kernel) rfl ?_
              refine ay_t_loc (pc := 92) fe_84_92 rfl ?_
              refine ay_t_stk (pc := 93) (S' := [.int 0, .int (105 + (3 * a1)), .ref 322]) fe_84_93 rfl ?_
              refine ay_t_stk (pc := 94) (S' := [.int ((105 + (3 * a1)) + 0), .ref 322]) fe_84_94 rfl ?_
              by_cases hb23 : ((105 + (3 * a1)) + 0) < 0 ∨ 405 ≤ ((105 + (3 * a1)) + 0).toNatClampNeg
              · rw [if_pos hb23] at h; cases h
              rw [if_neg hb23] at h
              refine ay_t_iaload (pc := 95) fe_84_95 at_322 (by decide) hb23 ?_
              cases h
              exact ay_t_iret fe_84_96 rfl rfl
def fn_85_17 : Nat → Int32 → am_DD → Option (Int32 × am_DD)
  | 0, _, _ => none
  | n + 1, x2, D => (if (105 + (3 * (D 322 3))) ≤ x2 then some (0, D) else (if (x2 + 3) < 0 ∨ 405 ≤ (x2 + 3).toNatClampNeg then none else (if x2 < 0 ∨ 405 ≤ x2.toNatClampNeg then none else fn_85_17 n (x2 + 1) (am_upd D 322 x2.toNatClampNeg (D 322 (x2 + 3).toNatClampNeg)))))
set_option maxHeartbeats 2000000 in
theorem ev_85_17 : ∀ (n : Nat) (x2 : Int32) (D : am_DD) (y : Int32) (Z : am_DD), fn_85_17 n x2 D = some (y, Z) → ay_to 85 17 [some (.ref 321), none, some (.int x2)] [] D (.inl none) Z := by
  intro n
  induction n with
  | zero => intro x2 D y Z h; cases h
  | succ n ih =>
    intro x2 D y Z h
    rw [fn_85_17] at h
    refine ay_t_loc (pc := 17) fe_85_17 rfl ?_
    refine ay_t_stk (pc := 18) (S' := [.int 105, .int x2]) fe_85_18 rfl ?_
    refine ay_t_stk (pc := 20) (S' := [.int 3, .int 105, .int x2]) fe_85_20 rfl ?_
    refine ay_t_loc (pc := 21) fe_85_21 rfl ?_
    refine ay_t_getR (pc := 22) (w := .ref 322) fe_85_22 at_321 (by decide +kernel) rfl ?_
    refine ay_t_stk (pc := 25) (S' := [.int 3, .ref 322, .int 3, .int 105, .int x2]) fe_85_25 rfl ?_
    refine ay_t_ialoadk (pc := 26) (k := 3) fe_85_26 at_322 (by decide) (by decide) (by decide) ?_
    refine ay_t_stk (pc := 27) (S' := [.int (3 * (D 322 3)), .int 105, .int x2]) fe_85_27 rfl ?_
    refine ay_t_stk (pc := 28) (S' := [.int (105 + (3 * (D 322 3))), .int x2]) fe_85_28 rfl ?_
    by_cases hc1 : (105 + (3 * (D 322 3))) ≤ x2
    · rw [if_pos hc1] at h
      refine ay_t_pos (pc := 29) hc1 fe_85_29 rfl ?_
      cases h
      exact ay_t_vret fe_85_52 rfl
    · rw [if_neg hc1] at h
      refine ay_t_neg (pc := 29) hc1 fe_85_29 rfl ?_
      refine ay_t_loc (pc := 32) fe_85_32 rfl ?_
      refine ay_t_getR (pc := 33) (w := .ref 322) fe_85_33 at_321 (by decide +kernel) rfl ?_
      refine ay_t_loc (pc := 36) fe_85_36 rfl ?_
      refine ay_t_loc (pc := 37) fe_85_37 rfl ?_
      refine ay_t_getR (pc := 38) (w := .ref 322) fe_85_38 at_321 (by decide +kernel) rfl ?_
      refine ay_t_loc (pc := 41) fe_85_41 rfl ?_
      refine ay_t_stk (pc := 42) (S' := [.int 3, .int x2, .ref 322, .int x2, .ref 322]) fe_85_42 rfl ?_
      refine ay_t_stk (pc := 43) (S' := [.int (x2 + 3), .ref 322, .int x2, .ref 322]) fe_85_43 rfl ?_
      by_cases hb2 : (x2 + 3) < 0 ∨ 405 ≤ (x2 + 3).toNatClampNeg
      · rw [if_pos hb2] at h; cases h
      rw [if_neg hb2] at h
      refine ay_t_iaload (pc := 44) fe_85_44 at_322 (by decide) hb2 ?_
      by_cases hb3 : x2 < 0 ∨ 405 ≤ x2.toNatClampNeg
      · rw [if_pos hb3] at h; cases h
      rw [if_neg hb3] at h
      refine ay_t_iastore (pc := 45) fe_85_45 at_322 hb3 ?_
      refine ay_t_loc (pc := 46) (L' := [some (.ref 321), none, some (.int (x2 + 1))]) fe_85_46 rfl ?_
      refine ay_t_br (pc := 49) (pc' := 17) fe_85_49 rfl ?_
      exact ay_t_less (ay_ls (ay_ls (ay_ls ay_l0))) (ih _ _ _ _ h)
def fn_85 (a1 : Int32) (D : am_DD) : Option (Int32 × am_DD) := fn_85_17 am_F (105 + (3 * a1)) (am_upd D 322 3 ((D 322 3) - 1))
set_option maxHeartbeats 2000000 in
theorem ev_85 {a1 : Int32} {D : am_DD} {y : Int32} {Z : am_DD} (h : fn_85 a1 D = some (y, Z)) : ay_mo 85 [.ref 321, .int a1] D (.inl none) Z := by
  unfold fn_85 at h
  refine ay_m_of (L := [some (.ref 321), some (.int a1), none]) rfl ?_
  refine ay_t_loc (pc := 0) fe_85_0 rfl ?_
  refine ay_t_getR (pc := 1) (w := .ref 322) fe_85_1 at_321 (by decide +kernel) rfl ?_
  refine ay_t_stk (pc := 4) (S' := [.int 3, .ref 322]) fe_85_4 rfl ?_
  refine ay_t_stk (pc := 5) (S' := [.int 3, .ref 322, .int 3, .ref 322]) fe_85_5 rfl ?_
  refine ay_t_ialoadk (pc := 6) (k := 3) fe_85_6 at_322 (by decide) (by decide) (by decide) ?_
  refine ay_t_stk (pc := 7) (S' := [.int 1, .int (D 322 3), .int 3, .ref 322]) fe_85_7 rfl ?_
  refine ay_t_stk (pc := 8) (S' := [.int ((D 322 3) - 1), .int 3, .ref 322]) fe_85_8 rfl ?_
  refine ay_t_iastorek (pc := 9) (k := 3) fe_85_9 at_322 (by decide) (by decide) ?_
  refine ay_t_stk (pc := 10) (S' := [.int 105]) fe_85_10 rfl ?_
  refine ay_t_stk (pc := 12) (S' := [.int 3, .int 105]) fe_85_12 rfl ?_
  refine ay_t_loc (pc := 13) fe_85_13 rfl ?_
  refine ay_t_stk (pc := 14) (S' := [.int (3 * a1), .int 105]) fe_85_14 rfl ?_
  refine ay_t_stk (pc := 15) (S' := [.int (105 + (3 * a1))]) fe_85_15 rfl ?_
  refine ay_t_loc (pc := 16) (L' := [some (.ref 321), some (.int a1), some (.int (105 + (3 * a1)))]) fe_85_16 rfl ?_
  exact ay_t_less (ay_ls (ay_ln (ay_ls ay_l0))) (ev_85_17 _ _ _ _ _ h)
