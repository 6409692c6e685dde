/-! methods as functions, with what am_run does (written by wip/whole/gen6.py) -/
def fn_178 (a1 a2 : Int32) (D : am_DD) : Option (Int32 × Nat × am_DD) := (if a1 < 0 then some (0, 1, D) else (if a2 < 0 then some (0, 1, D) else (if a2 ≤ 2 then (if a1 < (D 26 1) then (if a2 = 0 then (match fn_175 (((D 26 1) - 1) - a1) D with | none => none | some (y6, D7) => some (y6, 0, D7)) else (if a2 = 1 then (match fn_176 (((D 26 1) - 1) - a1) D with | none => none | some (y10, D11) => some (y10, 0, D11)) else (match fn_177 (((D 26 1) - 1) - a1) D with | none => none | some (y13, D14) => some (y13, 0, D14)))) else some ((-1), 0, D)) else some (0, 1, D))))
set_option maxHeartbeats 2000000 in
theorem ev_178 {a1 a2 : Int32} {D : am_DD} {y : Int32} {k : Nat} {Z : am_DD} (h : fn_178 a1 a2 D = some (y, k, Z)) : ay_mo 178 [.ref 0, .int a1, .int a2] D (ay_oc y k) Z := by
  unfold fn_178 at h
  refine ay_m_of (L := [some (.ref 0), some (.int a1), some (.int a2), none]) rfl ?_
  refine ay_t_loc (pc := 0) fe_178_0 rfl ?_
  by_cases hc1 : a1 < 0
  · rw [if_pos hc1] at h
    refine ay_t_pos (pc := 1) hc1 fe_178_1 rfl ?_
    cases h
    exact ay_t_thr fe_178_13 (by decide)
  · rw [if_neg hc1] at h
    refine ay_t_neg (pc := 1) hc1 fe_178_1 rfl ?_
    refine ay_t_loc (pc := 4) fe_178_4 rfl ?_
    by_cases hc2 : a2 < 0
    · rw [if_pos hc2] at h
      refine ay_t_pos (pc := 5) hc2 fe_178_5 rfl ?_
      cases h
      exact ay_t_thr fe_178_13 (by decide)
    · rw [if_neg hc2] at h
      refine ay_t_neg (pc := 5) hc2 fe_178_5 rfl ?_
      refine ay_t_loc (pc := 8) fe_178_8 rfl ?_
      refine ay_t_stk (pc := 9) (S' := [.int 2, .int a2]) fe_178_9 rfl ?_
      by_cases hc3 : a2 ≤ 2
      · rw [if_pos hc3] at h
        refine ay_t_pos (pc := 10) hc3 fe_178_10 rfl ?_
        refine ay_t_loc (pc := 24) fe_178_24 rfl ?_
        refine ay_t_loc (pc := 25) fe_178_25 rfl ?_
        refine ay_t_getR (pc := 26) (w := .ref 1) fe_178_26 at_0 (by decide +kernel) rfl ?_
        refine ay_t_getR (pc := 29) (w := .ref 26) fe_178_29 at_1 (by decide +kernel) rfl ?_
        refine ay_t_getI (pc := 32) fe_178_32 at_26 (by decide +kernel) rfl ?_
        by_cases hc4 : a1 < (D 26 1)
        · rw [if_pos hc4] at h
          refine ay_t_pos (pc := 35) hc4 fe_178_35 rfl ?_
          refine ay_t_loc (pc := 40) fe_178_40 rfl ?_
          refine ay_t_getR (pc := 41) (w := .ref 1) fe_178_41 at_0 (by decide +kernel) rfl ?_
          refine ay_t_getR (pc := 44) (w := .ref 26) fe_178_44 at_1 (by decide +kernel) rfl ?_
          refine ay_t_getI (pc := 47) fe_178_47 at_26 (by decide +kernel) rfl ?_
          refine ay_t_stk (pc := 50) (S' := [.int 1, .int (D 26 1)]) fe_178_50 rfl ?_
          refine ay_t_stk (pc := 51) (S' := [.int ((D 26 1) - 1)]) fe_178_51 rfl ?_
          refine ay_t_loc (pc := 52) fe_178_52 rfl ?_
          refine ay_t_stk (pc := 53) (S' := [.int (((D 26 1) - 1) - a1)]) fe_178_53 rfl ?_
          refine ay_t_loc (pc := 54) (L' := [some (.ref 0), some (.int a1), some (.int a2), some (.int (((D 26 1) - 1) - a1))]) fe_178_54 rfl ?_
          refine ay_t_loc (pc := 55) fe_178_55 rfl ?_
          by_cases hc5 : a2 = 0
          · rw [if_pos hc5] at h
            refine ay_t_br (pc := 56) (pc' := 84) (S' := []) fe_178_56 (by rw [hc5]; rfl) ?_
            refine ay_t_loc (pc := 84) fe_178_84 rfl ?_
            refine ay_t_getR (pc := 85) (w := .ref 1) fe_178_85 at_0 (by decide +kernel) rfl ?_
            refine ay_t_getR (pc := 88) (w := .ref 26) fe_178_88 at_1 (by decide +kernel) rfl ?_
            refine ay_t_loc (pc := 91) fe_178_91 rfl ?_
            cases hk8 : fn_175 (((D 26 1) - 1) - a1) D with
            | none => rw [hk8] at h; cases h
            | some z =>
              obtain ⟨y6, D7⟩ := z
              rw [hk8] at h
              dsimp only at h
              refine ay_t_call (pc := 92) (w := some (.int y6)) fe_178_92 (ay_args [.ref 26, .int (((D 26 1) - 1) - a1)] [] rfl rfl (Nat.le_of_ble_eq_true rfl) (Nat.le_of_ble_eq_true rfl)) (ay_rcvV at_26 rfl) (ev_175 hk8) ?_
              cases h
              exact ay_t_iret fe_178_95 rfl rfl
          · rw [if_neg hc5] at h
            by_cases hc9 : a2 = 1
            · rw [if_pos hc9] at h
              refine ay_t_br (pc := 56) (pc' := 96) (S' := []) fe_178_56 (by rw [hc9]; rfl) ?_
              refine ay_t_loc (pc := 96) fe_178_96 rfl ?_
              refine ay_t_getR (pc := 97) (w := .ref 1) fe_178_97 at_0 (by decide +kernel) rfl ?_
              refine ay_t_getR (pc := 100) (w := .ref 26) fe_178_100 at_1 (by decide +kernel) rfl ?_
              refine ay_t_loc (pc := 103) fe_178_103 rfl ?_
              cases hk12 : fn_176 (((D 26 1) - 1) - a1) D with
              | none => rw [hk12] at h; cases h
              | some z =>
                obtain ⟨y10, D11⟩ := z
                rw [hk12] at h
                dsimp only at h
                refine ay_t_call (pc := 104) (w := some (.int y10)) fe_178_104 (ay_args [.ref 26, .int (((D 26 1) - 1) - a1)] [] rfl rfl (Nat.le_of_ble_eq_true rfl) (Nat.le_of_ble_eq_true rfl)) (ay_rcvV at_26 rfl) (ev_176 hk12) ?_
                cases h
                exact ay_t_iret fe_178_107 rfl rfl
            · rw [if_neg hc9] at h
              refine ay_t_br (pc := 56) (pc' := 108) fe_178_56 (ay_look_def (x := a2) (by simp only [List.toList_toArray, Op.lookupswitch.offset_cons, Op.lookupswitch.offset_nil, if_neg (Ne.symm (ay_ne_toInt (c := 0) hc5 (by decide))), if_neg (Ne.symm (ay_ne_toInt (c := 1) hc9 (by decide)))]) rfl) ?_
              refine ay_t_loc (pc := 108) fe_178_108 rfl ?_
              refine ay_t_getR (pc := 109) (w := .ref 1) fe_178_109 at_0 (by decide +kernel) rfl ?_
              refine ay_t_getR (pc := 112) (w := .ref 26) fe_178_112 at_1 (by decide +kernel) rfl ?_
              refine ay_t_loc (pc := 115) fe_178_115 rfl ?_
              cases hk15 : fn_177 (((D 26 1) - 1) - a1) D with
              | none => rw [hk15] at h; cases h
              | some z =>
                obtain ⟨y13, D14⟩ := z
                rw [hk15] at h
                dsimp only at h
                refine ay_t_call (pc := 116) (w := some (.int y13)) fe_178_116 (ay_args [.ref 26, .int (((D 26 1) - 1) - a1)] [] rfl rfl (Nat.le_of_ble_eq_true rfl) (Nat.le_of_ble_eq_true rfl)) (ay_rcvV at_26 rfl) (ev_177 hk15) ?_
                cases h
                exact ay_t_iret fe_178_119 rfl rfl
        · rw [if_neg hc4] at h
          refine ay_t_neg (pc := 35) hc4 fe_178_35 rfl ?_
          refine ay_t_stk (pc := 38) (S' := [.int (-1)]) fe_178_38 rfl ?_
          cases h
          exact ay_t_iret fe_178_39 rfl rfl
      · rw [if_neg hc3] at h
        refine ay_t_neg (pc := 10) hc3 fe_178_10 rfl ?_
        cases h
        exact ay_t_thr fe_178_13 (by decide)
def fn_180 (a1 a2 : Int32) (D : am_DD) : Option (Int32 × am_DD) := (if ((225 + (3 * a1)) + a2) < 0 ∨ 405 ≤ ((225 + (3 * a1)) + a2).toNatClampNeg then none else some ((D 322 ((225 + (3 * a1)) + a2).toNatClampNeg), D))
set_option maxHeartbeats 2000000 in
theorem ev_180 {a1 a2 : Int32} {D : am_DD} {y : Int32} {Z : am_DD} (h : fn_180 a1 a2 D = some (y, Z)) : ay_mo 180 [.ref 321, .int a1, .int a2] D (.inl (some (.int y))) Z := by
  unfold fn_180 at h
  refine ay_m_of (L := [some (.ref 321), some (.int a1), some (.int a2)]) rfl ?_
  refine ay_t_loc (pc := 0) fe_180_0 rfl ?_
  refine ay_t_getR (pc := 1) (w := .ref 322) fe_180_1 at_321 (by decide +kernel) rfl ?_
  refine ay_t_stk (pc := 4) (S' := [.int 225, .ref 322]) fe_180_4 rfl ?_
  refine ay_t_stk (pc := 7) (S' := [.int 3, .int 225, .ref 322]) fe_180_7 rfl ?_
  refine ay_t_loc (pc := 8) fe_180_8 rfl ?_
  refine ay_t_stk (pc := 9) (S' := [.int (3 * a1), .int 225, .ref 322]) fe_180_9 rfl ?_
  refine ay_t_stk (pc := 10) (S' := [.int (225 + (3 * a1)), .ref 322]) fe_180_10 rfl ?_
  refine ay_t_loc (pc := 11) fe_180_11 rfl ?_
  refine ay_t_stk (pc := 12) (S' := [.int ((225 + (3 * a1)) + a2), .ref 322]) fe_180_12 rfl ?_
  by_cases hb1 : ((225 + (3 * a1)) + a2) < 0 ∨ 405 ≤ ((225 + (3 * a1)) + a2).toNatClampNeg
  · rw [if_pos hb1] at h; cases h
  rw [if_neg hb1] at h
  refine ay_t_iaload (pc := 13) fe_180_13 at_322 (by decide) hb1 ?_
  cases h
  exact ay_t_iret fe_180_14 rfl rfl
def fn_181 (a1 a2 : Int32) (D : am_DD) : Option (Int32 × am_DD) := (if a1 < 0 then (match fn_29 1 D with | none => none | some (y2, D3) => (if ¬ y2 = 0 then (if (D3 322 10) ≤ a1 then some ((-1), D3) else (match fn_180 (((D3 322 10) - 1) - a1) a2 D3 with | none => none | some (y7, D8) => some (y7, D8))) else some (0, D3))) else (match fn_26 a2 0 2 D with | none => none | some (y10, D11) => (if y10 = 0 then (match fn_29 1 D11 with | none => none | some (y14, D15) => (if ¬ y14 = 0 then (if (D15 322 10) ≤ a1 then some ((-1), D15) else (match fn_180 (((D15 322 10) - 1) - a1) a2 D15 with | none => none | some (y19, D20) => some (y19, D20))) else some (0, D15))) else (match fn_29 0 D11 with | none => none | some (y22, D23) => (if ¬ y22 = 0 then (if (D23 322 10) ≤ a1 then some ((-1), D23) else (match fn_180 (((D23 322 10) - 1) - a1) a2 D23 with | none => none | some (y27, D28) => some (y27, D28))) else some (0, D23))))))
set_option maxHeartbeats 2000000 in
theorem ev_181 {a1 a2 : Int32} {D : am_DD} {y : Int32} {Z : am_DD} (h : fn_181 a1 a2 D = some (y, Z)) : ay_mo 181 [.ref 321, .int a1, .int a2] D (.inl (some (.int y))) Z := by
  unfold fn_181 at h
  refine ay_m_of (L := [some (.ref 321), some (.int a1), some (.int a2)]) rfl ?_
  refine ay_t_loc (pc := 0) fe_181_0 rfl ?_
  refine ay_t_loc (pc := 1) fe_181_1 rfl ?_
  by_cases hc1 : a1 < 0
  · rw [if_pos hc1] at h
    refine ay_t_pos (pc := 2) hc1 fe_181_2 rfl ?_
    refine ay_t_stk (pc := 18) (S' := [.int 1, .ref 321]) fe_181_18 rfl ?_
    cases hk4 : fn_29 1 D with
    | none => rw [hk4] at h; cases h
    | some z =>
      obtain ⟨y2, D3⟩ := z
      rw [hk4] at h
      dsimp only at h
      refine ay_t_call (pc := 19) (w := some (.int y2)) fe_181_19 (ay_args [.ref 321, .int 1] [] rfl rfl (Nat.le_of_ble_eq_true rfl) (Nat.le_of_ble_eq_true rfl)) (ay_rcvV at_321 rfl) (ev_29 hk4) ?_
      by_cases hc5 : ¬ y2 = 0
      · rw [if_pos hc5] at h
        refine ay_t_pos (pc := 22) hc5 fe_181_22 rfl ?_
        refine ay_t_loc (pc := 27) fe_181_27 rfl ?_
        refine ay_t_loc (pc := 28) fe_181_28 rfl ?_
        refine ay_t_getR (pc := 29) (w := .ref 322) fe_181_29 at_321 (by decide +kernel) rfl ?_
        refine ay_t_stk (pc := 32) (S' := [.int 10, .ref 322, .int a1]) fe_181_32 rfl ?_
        refine ay_t_ialoadk (pc := 34) (k := 10) fe_181_34 at_322 (by decide) (by decide) (by decide) ?_
        by_cases hc6 : (D3 322 10) ≤ a1
        · rw [if_pos hc6] at h
          refine ay_t_pos (pc := 35) hc6 fe_181_35 rfl ?_
          refine ay_t_stk (pc := 57) (S' := [.int (-1)]) fe_181_57 rfl ?_
          cases h
          exact ay_t_iret fe_181_58 rfl rfl
        · rw [if_neg hc6] at h
          refine ay_t_neg (pc := 35) hc6 fe_181_35 rfl ?_
          refine ay_t_loc (pc := 38) fe_181_38 rfl ?_
          refine ay_t_loc (pc := 39) fe_181_39 rfl ?_
          refine ay_t_getR (pc := 40) (w := .ref 322) fe_181_40 at_321 (by decide +kernel) rfl ?_
          refine ay_t_stk (pc := 43) (S' := [.int 10, .ref 322, .ref 321]) fe_181_43 rfl ?_
          refine ay_t_ialoadk (pc := 45) (k := 10) fe_181_45 at_322 (by decide) (by decide) (by decide) ?_
          refine ay_t_stk (pc := 46) (S' := [.int 1, .int (D3 322 10), .ref 321]) fe_181_46 rfl ?_
          refine ay_t_stk (pc := 47) (S' := [.int ((D3 322 10) - 1), .ref 321]) fe_181_47 rfl ?_
          refine ay_t_loc (pc := 48) fe_181_48 rfl ?_
          refine ay_t_stk (pc := 49) (S' := [.int (((D3 322 10) - 1) - a1), .ref 321]) fe_181_49 rfl ?_
          refine ay_t_loc (pc := 50) fe_181_50 rfl ?_
          cases hk9 : fn_180 (((D3 322 10) - 1) - a1) a2 D3 with
          | none => rw [hk9] at h; cases h
          | some z =>
            obtain ⟨y7, D8⟩ := z
            rw [hk9] at h
            dsimp only at h
            refine ay_t_call (pc := 51) (w := some (.int y7)) fe_181_51 (ay_args [.ref 321, .int (((D3 322 10) - 1) - a1), .int a2] [] rfl rfl (Nat.le_of_ble_eq_true rfl) (Nat.le_of_ble_eq_true rfl)) (ay_rcvV at_321 rfl) (ev_180 hk9) ?_
            refine ay_t_br (pc := 54) (pc' := 58) fe_181_54 rfl ?_
            cases h
            exact ay_t_iret fe_181_58 rfl rfl
      · rw [if_neg hc5] at h
        refine ay_t_neg (pc := 22) hc5 fe_181_22 rfl ?_
        refine ay_t_stk (pc := 25) (S' := [.int 0]) fe_181_25 rfl ?_
        cases h
        exact ay_t_iret fe_181_26 rfl rfl
  · rw [if_neg hc1] at h
    refine ay_t_neg (pc := 2) hc1 fe_181_2 rfl ?_
    refine ay_t_loc (pc := 5) fe_181_5 rfl ?_
    refine ay_t_stk (pc := 6) (S' := [.int 0, .int a2, .ref 321]) fe_181_6 rfl ?_
    refine ay_t_stk (pc := 7) (S' := [.int 2, .int 0, .int a2, .ref 321]) fe_181_7 rfl ?_
    cases hk12 : fn_26 a2 0 2 D with
    | none => rw [hk12] at h; cases h
    | some z =>
      obtain ⟨y10, D11⟩ := z
      rw [hk12] at h
      dsimp only at h
      refine ay_t_call (pc := 8) (w := some (.int y10)) fe_181_8 (ay_args [.int a2, .int 0, .int 2] [.ref 321] rfl rfl (Nat.le_of_ble_eq_true rfl) (Nat.le_of_ble_eq_true rfl)) rfl (ev_26 hk12) ?_
      by_cases hc13 : y10 = 0
      · rw [if_pos hc13] at h
        refine ay_t_pos (pc := 11) hc13 fe_181_11 rfl ?_
        refine ay_t_stk (pc := 18) (S' := [.int 1, .ref 321]) fe_181_18 rfl ?_
        cases hk16 : fn_29 1 D11 with
        | none => rw [hk16] at h; cases h
        | some z =>
          obtain ⟨y14, D15⟩ := z
          rw [hk16] at h
          dsimp only at h
          refine ay_t_call (pc := 19) (w := some (.int y14)) fe_181_19 (ay_args [.ref 321, .int 1] [] rfl rfl (Nat.le_of_ble_eq_true rfl) (Nat.le_of_ble_eq_true rfl)) (ay_rcvV at_321 rfl) (ev_29 hk16) ?_
          by_cases hc17 : ¬ y14 = 0
          · rw [if_pos hc17] at h
            refine ay_t_pos (pc := 22) hc17 fe_181_22 rfl ?_
            refine ay_t_loc (pc := 27) fe_181_27 rfl ?_
            refine ay_t_loc (pc := 28) fe_181_28 rfl ?_
            refine ay_t_getR (pc := 29) (w := .ref 322) fe_181_29 at_321 (by decide +kernel) rfl ?_
            refine ay_t_stk (pc := 32) (S' := [.int 10, .ref 322, .int a1]) fe_181_32 rfl ?_
            refine ay_t_ialoadk (pc := 34) (k := 10) fe_181_34 at_322 (by decide) (by decide) (by decide) ?_
            by_cases hc18 : (D15 322 10) ≤ a1
            · rw [if_pos hc18] at h
              refine ay_t_pos (pc := 35) hc18 fe_181_35 rfl ?_
              refine ay_t_stk (pc := 57) (S' := [.int (-1)]) fe_181_57 rfl ?_
              cases h
              exact ay_t_iret fe_181_58 rfl rfl
            · rw [if_neg hc18] at h
              refine ay_t_neg (pc := 35) hc18 fe_181_35 rfl ?_
              refine ay_t_loc (pc := 38) fe_181_38 rfl ?_
              refine ay_t_loc (pc := 39) fe_181_39 rfl ?_
              refine ay_t_getR (pc := 40) (w := .ref 322) fe_181_40 at_321 (by decide +kernel) rfl ?_
              refine ay_t_stk (pc := 43) (S' := [.int 10, .ref 322, .ref 321]) fe_181_43 rfl ?_
              refine ay_t_ialoadk (pc := 45) (k := 10) fe_181_45 at_322 (by decide) (by decide) (by decide) ?_
              refine ay_t_stk (pc := 46) (S' := [.int 1, .int (D15 322 10), .ref 321]) fe_181_46 rfl ?_
              refine ay_t_stk (pc := 47) (S' := [.int ((D15 322 10) - 1), .ref 321]) fe_181_47 rfl ?_
              refine ay_t_loc (pc := 48) fe_181_48 rfl ?_
              refine ay_t_stk (pc := 49) (S' := [.int (((D15 322 10) - 1) - a1), .ref 321]) fe_181_49 rfl ?_
              refine ay_t_loc (pc := 50) fe_181_50 rfl ?_
              cases hk21 : fn_180 (((D15 322 10) - 1) - a1) a2 D15 with
              | none => rw [hk21] at h; cases h
              | some z =>
                obtain ⟨y19, D20⟩ := z
                rw [hk21] at h
                dsimp only at h
                refine ay_t_call (pc := 51) (w := some (.int y19)) fe_181_51 (ay_args [.ref 321, .int (((D15 322 10) - 1) - a1), .int a2] [] rfl rfl (Nat.le_of_ble_eq_true rfl) (Nat.le_of_ble_eq_true rfl)) (ay_rcvV at_321 rfl) (ev_180 hk21) ?_
                refine ay_t_br (pc := 54) (pc' := 58) fe_181_54 rfl ?_
                cases h
                exact ay_t_iret fe_181_58 rfl rfl
          · rw [if_neg hc17] at h
            refine ay_t_neg (pc := 22) hc17 fe_181_22 rfl ?_
            refine ay_t_stk (pc := 25) (S' := [.int 0]) fe_181_25 rfl ?_
            cases h
            exact ay_t_iret fe_181_26 rfl rfl
      · rw [if_neg hc13] at h
        refine ay_t_neg (pc := 11) hc13 fe_181_11 rfl ?_
        refine ay_t_stk (pc := 14) (S' := [.int 0, .ref 321]) fe_181_14 rfl ?_
        refine ay_t_br (pc := 15) (pc' := 19) fe_181_15 rfl ?_
        cases hk24 : fn_29 0 D11 with
        | none => rw [hk24] at h; cases h
        | some z =>
          obtain ⟨y22, D23⟩ := z
          rw [hk24] at h
          dsimp only at h
          refine ay_t_call (pc := 19) (w := some (.int y22)) fe_181_19 (ay_args [.ref 321, .int 0] [] rfl rfl (Nat.le_of_ble_eq_true rfl) (Nat.le_of_ble_eq_true rfl)) (ay_rcvV at_321 rfl) (ev_29 hk24) ?_
          by_cases hc25 : ¬ y22 = 0
          · rw [if_pos hc25] at h
            refine ay_t_pos (pc := 22) hc25 fe_181_22 rfl ?_
            refine ay_t_loc (pc := 27) fe_181_27 rfl ?_
            refine ay_t_loc (pc := 28) fe_181_28 rfl ?_
            refine ay_t_getR (pc := 29) (w := .ref 322) fe_181_29 at_321 (by decide +kernel) rfl ?_
            refine ay_t_stk (pc := 32) (S' := [.int 10, .ref 322, .int a1]) fe_181_32 rfl ?_
            refine ay_t_ialoadk (pc := 34) (k := 10) fe_181_34 at_322 (by decide) (by decide) (by decide) ?_
            by_cases hc26 : (D23 322 10) ≤ a1
            · rw [if_pos hc26] at h
              refine ay_t_pos (pc := 35) hc26 fe_181_35 rfl ?_
              refine ay_t_stk (pc := 57) (S' := [.int (-1)]) fe_181_57 rfl ?_
              cases h
              exact ay_t_iret fe_181_58 rfl rfl
            · rw [if_neg hc26] at h
              refine ay_t_neg (pc := 35) hc26 fe_181_35 rfl ?_
              refine ay_t_loc (pc := 38) fe_181_38 rfl ?_
              refine ay_t_loc (pc := 39) fe_181_39 rfl ?_
              refine ay_t_getR (pc := 40) (w := .ref 322) fe_181_40 at_321 (by decide +kernel) rfl ?_
              refine ay_t_stk (pc := 43) (S' := [.int 10, .ref 322, .ref 321]) fe_181_43 rfl ?_
              refine ay_t_ialoadk (pc := 45) (k := 10) fe_181_45 at_322 (by decide) (by decide) (by decide) ?_
              refine ay_t_stk (pc := 46) (S' := [.int 1, .int (D23 322 10), .ref 321]) fe_181_46 rfl ?_
              refine ay_t_stk (pc := 47) (S' := [.int ((D23 322 10) - 1), .ref 321]) fe_181_47 rfl ?_
              refine ay_t_loc (pc := 48) fe_181_48 rfl ?_
              refine ay_t_stk (pc := 49) (S' := [.int (((D23 322 10) - 1) - a1), .ref 321]) fe_181_49 rfl ?_
              refine ay_t_loc (pc := 50) fe_181_50 rfl ?_
              cases hk29 : fn_180 (((D23 322 10) - 1) - a1) a2 D23 with
              | none => rw [hk29] at h; cases h
              | some z =>
                obtain ⟨y27, D28⟩ := z
                rw [hk29] at h
                dsimp only at h
                refine ay_t_call (pc := 51) (w := some (.int y27)) fe_181_51 (ay_args [.ref 321, .int (((D23 322 10) - 1) - a1), .int a2] [] rfl rfl (Nat.le_of_ble_eq_true rfl) (Nat.le_of_ble_eq_true rfl)) (ay_rcvV at_321 rfl) (ev_180 hk29) ?_
                refine ay_t_br (pc := 54) (pc' := 58) fe_181_54 rfl ?_
                cases h
                exact ay_t_iret fe_181_58 rfl rfl
          · rw [if_neg hc25] at h
            refine ay_t_neg (pc := 22) hc25 fe_181_22 rfl ?_
            refine ay_t_stk (pc := 25) (S' := [.int 0]) fe_181_25 rfl ?_
            cases h
            exact ay_t_iret fe_181_26 rfl rfl
def fn_182_4 : Nat → Int32 → Int32 → Int32 → am_DD → Option (Int32 × am_DD)
  | 0, _, _, _, _ => none
  | n + 1, x1, x2, x3, D => (if (D 26 1) ≤ x3 then some (x2, D) else (match fn_175 x3 D with | none => none | some (y2, D3) => (if ¬ y2 = x1 then fn_182_4 n x1 x2 (x3 + 1) D3 else (match fn_177 x3 D3 with | none => none | some (y6, D7) => fn_182_4 n x1 (x2 ||| (1 <<< (y6 &&& 31))) (x3 + 1) D7))))
set_option maxHeartbeats 2000000 in
theorem ev_182_4 : ∀ (n : Nat) (x1 x2 x3 : Int32) (D : am_DD) (y : Int32) (Z : am_DD), fn_182_4 n x1 x2 x3 D = some (y, Z) → ay_to 182 4 [some (.ref 40), some (.int x1), some (.int x2), some (.int x3)] [] D (.inl (some (.int y))) Z := by
  intro n
  induction n with
  | zero => intro x1 x2 x3 D y Z h; cases h
  | succ n ih =>
    intro x1 x2 x3 D y Z h
    rw [fn_182_4] at h
    refine ay_t_loc (pc := 4) fe_182_4 rfl ?_
    refine ay_t_loc (pc := 5) fe_182_5 rfl ?_
    refine ay_t_getR (pc := 6) (w := .ref 26) fe_182_6 at_40 (by decide +kernel) rfl ?_
    refine ay_t_getI (pc := 9) fe_182_9 at_26 (by decide +kernel) rfl ?_
    by_cases hc1 : (D 26 1) ≤ x3
    · rw [if_pos hc1] at h
      refine ay_t_pos (pc := 12) hc1 fe_182_12 rfl ?_
      refine ay_t_loc (pc := 46) fe_182_46 rfl ?_
      cases h
      exact ay_t_iret fe_182_47 rfl rfl
    · rw [if_neg hc1] at h
      refine ay_t_neg (pc := 12) hc1 fe_182_12 rfl ?_
      refine ay_t_loc (pc := 15) fe_182_15 rfl ?_
      refine ay_t_getR (pc := 16) (w := .ref 26) fe_182_16 at_40 (by decide +kernel) rfl ?_
      refine ay_t_loc (pc := 19) fe_182_19 rfl ?_
      cases hk4 : fn_175 x3 D with
      | none => rw [hk4] at h; cases h
      | some z =>
        obtain ⟨y2, D3⟩ := z
        rw [hk4] at h
        dsimp only at h
        refine ay_t_call (pc := 20) (w := some (.int y2)) fe_182_20 (ay_args [.ref 26, .int x3] [] rfl rfl (Nat.le_of_ble_eq_true rfl) (Nat.le_of_ble_eq_true rfl)) (ay_rcvV at_26 rfl) (ev_175 hk4) ?_
        refine ay_t_loc (pc := 23) fe_182_23 rfl ?_
        by_cases hc5 : ¬ y2 = x1
        · rw [if_pos hc5] at h
          refine ay_t_pos (pc := 24) hc5 fe_182_24 rfl ?_
          refine ay_t_loc (pc := 40) (L' := [some (.ref 40), some (.int x1), some (.int x2), some (.int (x3 + 1))]) fe_182_40 rfl ?_
          refine ay_t_br (pc := 43) (pc' := 4) fe_182_43 rfl ?_
          exact ay_t_less (ay_ls (ay_ls (ay_ls (ay_ls ay_l0)))) (ih _ _ _ _ _ _ h)
        · rw [if_neg hc5] at h
          refine ay_t_neg (pc := 24) hc5 fe_182_24 rfl ?_
          refine ay_t_loc (pc := 27) fe_182_27 rfl ?_
          refine ay_t_stk (pc := 28) (S' := [.int 1, .int x2]) fe_182_28 rfl ?_
          refine ay_t_loc (pc := 29) fe_182_29 rfl ?_
          refine ay_t_getR (pc := 30) (w := .ref 26) fe_182_30 at_40 (by decide +kernel) rfl ?_
          refine ay_t_loc (pc := 33) fe_182_33 rfl ?_
          cases hk8 : fn_177 x3 D3 with
          | none => rw [hk8] at h; cases h
          | some z =>
            obtain ⟨y6, D7⟩ := z
            rw [hk8] at h
            dsimp only at h
            refine ay_t_call (pc := 34) (w := some (.int y6)) fe_182_34 (ay_args [.ref 26, .int x3] [.int 1, .int x2] rfl rfl (Nat.le_of_ble_eq_true rfl) (Nat.le_of_ble_eq_true rfl)) (ay_rcvV at_26 rfl) (ev_177 hk8) ?_
            refine ay_t_stk (pc := 37) (S' := [.int (1 <<< (y6 &&& 31)), .int x2]) fe_182_37 rfl ?_
            refine ay_t_stk (pc := 38) (S' := [.int (x2 ||| (1 <<< (y6 &&& 31)))]) fe_182_38 rfl ?_
            refine ay_t_loc (pc := 39) (L' := [some (.ref 40), some (.int x1), some (.int (x2 ||| (1 <<< (y6 &&& 31)))), some (.int x3)]) fe_182_39 rfl ?_
            refine ay_t_loc (pc := 40) (L' := [some (.ref 40), some (.int x1), some (.int (x2 ||| (1 <<< (y6 &&& 31)))), some (.int (x3 + 1))]) fe_182_40 rfl ?_
            refine ay_t_br (pc := 43) (pc' := 4) fe_182_43 rfl ?_
            exact ay_t_less (ay_ls (ay_ls (ay_ls (ay_ls ay_l0)))) (ih _ _ _ _ _ _ h)
def fn_182 (a1 : Int32) (D : am_DD) : Option (Int32 × am_DD) := fn_182_4 am_F a1 0 0 D
set_option maxHeartbeats 2000000 in
theorem ev_182 {a1 : Int32} {D : am_DD} {y : Int32} {Z : am_DD} (h : fn_182 a1 D = some (y, Z)) : ay_mo 182 [.ref 40, .int a1] D (.inl (some (.int y))) Z := by
  unfold fn_182 at h
  refine ay_m_of (L := [some (.ref 40), some (.int a1), none, none]) rfl ?_
  refine ay_t_stk (pc := 0) (S' := [.int 0]) fe_182_0 rfl ?_
  refine ay_t_loc (pc := 1) (L' := [some (.ref 40), some (.int a1), some (.int 0), none]) fe_182_1 rfl ?_
  refine ay_t_stk (pc := 2) (S' := [.int 0]) fe_182_2 rfl ?_
  refine ay_t_loc (pc := 3) (L' := [some (.ref 40), some (.int a1), some (.int 0), some (.int 0)]) fe_182_3 rfl ?_
  exact ay_t_less (ay_ls (ay_ls (ay_ls (ay_ls ay_l0)))) (ev_182_4 _ _ _ _ _ _ _ h)
def fn_183 (a1 : Int32) (D : am_DD) : Option (Int32 × Nat × am_DD) := (if 0 ≤ a1 then (match fn_182 a1 D with | none => none | some (y2, D3) => some (y2, 0, D3)) else some (0, 1, D))
set_option maxHeartbeats 2000000 in
theorem ev_183 {a1 : Int32} {D : am_DD} {y : Int32} {k : Nat} {Z : am_DD} (h : fn_183 a1 D = some (y, k, Z)) : ay_mo 183 [.ref 0, .int a1] D (ay_oc y k) Z := by
  unfold fn_183 at h
  refine ay_m_of (L := [some (.ref 0), some (.int a1)]) rfl ?_
  refine ay_t_loc (pc := 0) fe_183_0 rfl ?_
  by_cases hc1 : 0 ≤ a1
  · rw [if_pos hc1] at h
    refine ay_t_pos (pc := 1) hc1 fe_183_1 rfl ?_
    refine ay_t_loc (pc := 15) fe_183_15 rfl ?_
    refine ay_t_getR (pc := 16) (w := .ref 40) fe_183_16 at_0 (by decide +kernel) rfl ?_
    refine ay_t_loc (pc := 19) fe_183_19 rfl ?_
    cases hk4 : fn_182 a1 D with
    | none => rw [hk4] at h; cases h
    | some z =>
      obtain ⟨y2, D3⟩ := z
      rw [hk4] at h
      dsimp only at h
      refine ay_t_call (pc := 20) (w := some (.int y2)) fe_183_20 (ay_args [.ref 40, .int a1] [] rfl rfl (Nat.le_of_ble_eq_true rfl) (Nat.le_of_ble_eq_true rfl)) (ay_rcvV at_40 rfl) (ev_182 hk4) ?_
      cases h
      exact ay_t_iret fe_183_23 rfl rfl
  · rw [if_neg hc1] at h
    refine ay_t_neg (pc := 1) hc1 fe_183_1 rfl ?_
    cases h
    exact ay_t_thr fe_183_4 (by decide)
def fn_185_4 : Nat → Int32 → Int32 → Int32 → am_DD → Option (Int32 × am_DD)
  | 0, _, _, _, _ => none
  | n + 1, x1, x2, x3, D => (if (D 322 10) ≤ x3 then some (x2, D) else (match fn_180 x3 0 D with | none => none | some (y2, D3) => (if ¬ y2 = x1 then fn_185_4 n x1 (x2 ||| 0) (x3 + 1) D3 else (match fn_180 x3 2 D3 with | none => none | some (y6, D7) => fn_185_4 n x1 (x2 ||| (1 <<< (y6 &&& 31))) (x3 + 1) D7))))
set_option maxHeartbeats 2000000 in
theorem ev_185_4 : ∀ (n : Nat) (x1 x2 x3 : Int32) (D : am_DD) (y : Int32) (Z : am_DD), fn_185_4 n x1 x2 x3 D = some (y, Z) → ay_to 185 4 [some (.ref 321), some (.int x1), some (.int x2), some (.int x3)] [] D (.inl (some (.int y))) Z := by
  intro n
  induction n with
  | zero => intro x1 x2 x3 D y Z h; cases h
  | succ n ih =>
    intro x1 x2 x3 D y Z h
    rw [fn_185_4] at h
    refine ay_t_loc (pc := 4) fe_185_4 rfl ?_
    refine ay_t_loc (pc := 5) fe_185_5 rfl ?_
    refine ay_t_getR (pc := 6) (w := .ref 322) fe_185_6 at_321 (by decide +kernel) rfl ?_
    refine ay_t_stk (pc := 9) (S' := [.int 10, .ref 322, .int x3]) fe_185_9 rfl ?_
    refine ay_t_ialoadk (pc := 11) (k := 10) fe_185_11 at_322 (by decide) (by decide) (by decide) ?_
    by_cases hc1 : (D 322 10) ≤ x3
    · rw [if_pos hc1] at h
      refine ay_t_pos (pc := 12) hc1 fe_185_12 rfl ?_
      refine ay_t_loc (pc := 46) fe_185_46 rfl ?_
      cases h
      exact ay_t_iret fe_185_47 rfl rfl
    · rw [if_neg hc1] at h
      refine ay_t_neg (pc := 12) hc1 fe_185_12 rfl ?_
      refine ay_t_loc (pc := 15) fe_185_15 rfl ?_
      refine ay_t_loc (pc := 16) fe_185_16 rfl ?_
      refine ay_t_loc (pc := 17) fe_185_17 rfl ?_
      refine ay_t_stk (pc := 18) (S' := [.int 0, .int x3, .ref 321, .int x2]) fe_185_18 rfl ?_
      cases hk4 : fn_180 x3 0 D with
      | none => rw [hk4] at h; cases h
      | some z =>
        obtain ⟨y2, D3⟩ := z
        rw [hk4] at h
        dsimp only at h
        refine ay_t_call (pc := 19) (w := some (.int y2)) fe_185_19 (ay_args [.ref 321, .int x3, .int 0] [.int x2] rfl rfl (Nat.le_of_ble_eq_true rfl) (Nat.le_of_ble_eq_true rfl)) (ay_rcvV at_321 rfl) (ev_180 hk4) ?_
        refine ay_t_loc (pc := 22) fe_185_22 rfl ?_
        by_cases hc5 : ¬ y2 = x1
        · rw [if_pos hc5] at h
          refine ay_t_pos (pc := 23) hc5 fe_185_23 rfl ?_
          refine ay_t_stk (pc := 37) (S' := [.int 0, .int x2]) fe_185_37 rfl ?_
          refine ay_t_stk (pc := 38) (S' := [.int (x2 ||| 0)]) fe_185_38 rfl ?_
          refine ay_t_loc (pc := 39) (L' := [some (.ref 321), some (.int x1), some (.int (x2 ||| 0)), some (.int x3)]) fe_185_39 rfl ?_
          refine ay_t_loc (pc := 40) (L' := [some (.ref 321), some (.int x1), some (.int (x2 ||| 0)), some (.int (x3 + 1))]) fe_185_40 rfl ?_
          refine ay_t_br (pc := 43) (pc' := 4) fe_185_43 rfl ?_
          exact ay_t_less (ay_ls (ay_ls (ay_ls (ay_ls ay_l0)))) (ih _ _ _ _ _ _ h)
        · rw [if_neg hc5] at h
          refine ay_t_neg (pc := 23) hc5 fe_185_23 rfl ?_
          refine ay_t_stk (pc := 26) (S' := [.int 1, .int x2]) fe_185_26 rfl ?_
          refine ay_t_loc (pc := 27) fe_185_27 rfl ?_
          refine ay_t_loc (pc := 28) fe_185_28 rfl ?_
          refine ay_t_stk (pc := 29) (S' := [.int 2, .int x3, .ref 321, .int 1, .int x2]) fe_185_29 rfl ?_
          cases hk8 : fn_180 x3 2 D3 with
          | none => rw [hk8] at h; cases h
          | some z =>
            obtain ⟨y6, D7⟩ := z
            rw [hk8] at h
            dsimp only at h
            refine ay_t_call (pc := 30) (w := some (.int y6)) fe_185_30 (ay_args [.ref 321, .int x3, .int 2] [.int 1, .int x2] rfl rfl (Nat.le_of_ble_eq_true rfl) (Nat.le_of_ble_eq_true rfl)) (ay_rcvV at_321 rfl) (ev_180 hk8) ?_
            refine ay_t_stk (pc := 33) (S' := [.int (1 <<< (y6 &&& 31)), .int x2]) fe_185_33 rfl ?_
            refine ay_t_br (pc := 34) (pc' := 38) fe_185_34 rfl ?_
            refine ay_t_stk (pc := 38) (S' := [.int (x2 ||| (1 <<< (y6 &&& 31)))]) fe_185_38 rfl ?_
            refine ay_t_loc (pc := 39) (L' := [some (.ref 321), some (.int x1), some (.int (x2 ||| (1 <<< (y6 &&& 31)))), some (.int x3)]) fe_185_39 rfl ?_
            refine ay_t_loc (pc := 40) (L' := [some (.ref 321), some (.int x1), some (.int (x2 ||| (1 <<< (y6 &&& 31)))), some (.int (x3 + 1))]) fe_185_40 rfl ?_
            refine ay_t_br (pc := 43) (pc' := 4) fe_185_43 rfl ?_
            exact ay_t_less (ay_ls (ay_ls (ay_ls (ay_ls ay_l0)))) (ih _ _ _ _ _ _ h)
def fn_185 (a1 : Int32) (D : am_DD) : Option (Int32 × am_DD) := fn_185_4 am_F a1 0 0 D
set_option maxHeartbeats 2000000 in
theorem ev_185 {a1 : Int32} {D : am_DD} {y : Int32} {Z : am_DD} (h : fn_185 a1 D = some (y, Z)) : ay_mo 185 [.ref 321, .int a1] D (.inl (some (.int y))) Z := by
  unfold fn_185 at h
  refine ay_m_of (L := [some (.ref 321), some (.int a1), none, none]) rfl ?_
  refine ay_t_stk (pc := 0) (S' := [.int 0]) fe_185_0 rfl ?_
  refine ay_t_loc (pc := 1) (L' := [some (.ref 321), some (.int a1), some (.int 0), none]) fe_185_1 rfl ?_
  refine ay_t_stk (pc := 2) (S' := [.int 0]) fe_185_2 rfl ?_
  refine ay_t_loc (pc := 3) (L' := [some (.ref 321), some (.int a1), some (.int 0), some (.int 0)]) fe_185_3 rfl ?_
  exact ay_t_less (ay_ls (ay_ls (ay_ls (ay_ls ay_l0)))) (ev_185_4 _ _ _ _ _ _ _ h)
def fn_204_29 (kk : Int32 → Option (Int32 × am_DD)) : Nat → Int32 → Int32 → Option (Int32 × am_DD)
  | 0, _, _ => none
  | n + 1, x3, x4 => if x4 = 0 then kk x3 else fn_204_29 kk n (x3 + 1) (x4 &&& (x4 - 1))
def fn_204_4 : Nat → Int32 → Int32 → am_DD → Option (Int32 × am_DD)
  | 0, _, _, _ => none
  | n + 1, x1, x2, D => (if D 322 10 ≤ x2 then some (x1, D) else (match fn_180 x2 0 D with | none => none | some (y, D2) => (match fn_185 y D2 with | none => none | some (z, D3) => fn_204_29 (fun c => if c ≤ x1 then fn_204_4 n x1 (x2 + 1) D3 else fn_204_4 n c (x2 + 1) D3) am_F 0 z)))
set_option maxHeartbeats 2000000 in
theorem ev_204_29 {x1 x2 y : Int32} {D Z : am_DD} (kk : Int32 → Option (Int32 × am_DD)) (hk : ∀ c, kk c = some (y, Z) → ∀ x4, ay_to 204 49 [some (.ref 321), some (.int x1), some (.int x2), some (.int c), some (.int x4)] [] D (.inl (some (.int y))) Z) : ∀ (n : Nat) (x3 x4 : Int32), fn_204_29 kk n x3 x4 = some (y, Z) → ay_to 204 29 [some (.ref 321), some (.int x1), some (.int x2), some (.int x3), some (.int x4)] [] D (.inl (some (.int y))) Z := by
  intro n
  induction n with
  | zero => intro x3 x4 h; cases h
  | succ n ih =>
    intro x3 x4 h
    rw [fn_204_29] at h
    refine ay_t_loc (pc := 29) fe_204_29 rfl ?_
    by_cases hc : x4 = 0
    · rw [if_pos hc] at h
      refine ay_t_pos (pc := 31) hc fe_204_31 rfl ?_
      exact hk x3 h x4
    · rw [if_neg hc] at h
      refine ay_t_neg (pc := 31) hc fe_204_31 rfl ?_
      refine ay_t_loc (pc := 34) (L' := [some (.ref 321), some (.int x1), some (.int x2), some (.int (x3 + 1)), some (.int x4)]) fe_204_34 rfl ?_
      refine ay_t_loc (pc := 37) fe_204_37 rfl ?_
      refine ay_t_loc (pc := 39) fe_204_39 rfl ?_
      refine ay_t_stk (pc := 41) (S' := [.int 1, .int x4, .int x4]) fe_204_41 rfl ?_
      refine ay_t_stk (pc := 42) (S' := [.int (x4 - 1), .int x4]) fe_204_42 rfl ?_
      refine ay_t_stk (pc := 43) (S' := [.int (x4 &&& (x4 - 1))]) fe_204_43 rfl ?_
      refine ay_t_loc (pc := 44) (L' := [some (.ref 321), some (.int x1), some (.int x2), some (.int (x3 + 1)), some (.int (x4 &&& (x4 - 1)))]) fe_204_44 rfl ?_
      refine ay_t_br (pc := 46) (pc' := 29) fe_204_46 rfl ?_
      exact ih _ _ h
set_option maxHeartbeats 2000000 in
theorem ev_204_4 : ∀ (n : Nat) (x1 x2 : Int32) (D : am_DD) (y : Int32) (Z : am_DD), fn_204_4 n x1 x2 D = some (y, Z) → ay_to 204 4 [some (.ref 321), some (.int x1), some (.int x2), none, none] [] D (.inl (some (.int y))) Z := by
  intro n
  induction n with
  | zero => intro x1 x2 D y Z h; cases h
  | succ n ih =>
    intro x1 x2 D y Z h
    rw [fn_204_4] at h
    refine ay_t_loc (pc := 4) fe_204_4 rfl ?_
    refine ay_t_loc (pc := 5) fe_204_5 rfl ?_
    refine ay_t_getR (pc := 6) (w := .ref 322) fe_204_6 at_321 (by decide +kernel) rfl ?_
    refine ay_t_stk (pc := 9) (S' := [.int 10, .ref 322, .int x2]) fe_204_9 rfl ?_
    refine ay_t_ialoadk (pc := 11) (k := 10) fe_204_11 at_322 (by decide) (by decide) (by decide) ?_
    by_cases hc1 : D 322 10 ≤ x2
    · rw [if_pos hc1] at h
      refine ay_t_pos (pc := 12) hc1 fe_204_12 rfl ?_
      refine ay_t_loc (pc := 66) fe_204_66 rfl ?_
      cases h
      exact ay_t_iret fe_204_67 rfl rfl
    · rw [if_neg hc1] at h
      refine ay_t_neg (pc := 12) hc1 fe_204_12 rfl ?_
      refine ay_t_stk (pc := 15) (S' := [.int 0]) fe_204_15 rfl ?_
      refine ay_t_loc (pc := 16) (L' := [some (.ref 321), some (.int x1), some (.int x2), some (.int 0), none]) fe_204_16 rfl ?_
      refine ay_t_loc (pc := 17) fe_204_17 rfl ?_
      refine ay_t_loc (pc := 18) fe_204_18 rfl ?_
      refine ay_t_loc (pc := 19) fe_204_19 rfl ?_
      refine ay_t_stk (pc := 20) (S' := [.int 0, .int x2, .ref 321, .ref 321]) fe_204_20 rfl ?_
      cases hk5 : fn_180 x2 0 D with
      | none => rw [hk5] at h; cases h
      | some z =>
        obtain ⟨y3, D4⟩ := z
        rw [hk5] at h
        dsimp only at h
        refine ay_t_call (pc := 21) (w := some (.int y3)) fe_204_21 (ay_args [.ref 321, .int x2, .int 0] [.ref 321] rfl rfl (Nat.le_of_ble_eq_true rfl) (Nat.le_of_ble_eq_true rfl)) (ay_rcvV at_321 rfl) (ev_180 hk5) ?_
        cases hk6 : fn_185 y3 D4 with
        | none => rw [hk6] at h; cases h
        | some z =>
          obtain ⟨y7, D8⟩ := z
          rw [hk6] at h
          dsimp only at h
          refine ay_t_call (pc := 24) (w := some (.int y7)) fe_204_24 (ay_args [.ref 321, .int y3] [] rfl rfl (Nat.le_of_ble_eq_true rfl) (Nat.le_of_ble_eq_true rfl)) (ay_rcvV at_321 rfl) (ev_185 hk6) ?_
          refine ay_t_loc (pc := 27) (L' := [some (.ref 321), some (.int x1), some (.int x2), some (.int 0), some (.int y7)]) fe_204_27 rfl ?_
          refine ev_204_29 _ (fun c hc x4 => ?_) _ _ _ h
          refine ay_t_loc (pc := 49) fe_204_49 rfl ?_
          refine ay_t_loc (pc := 50) fe_204_50 rfl ?_
          by_cases hc2 : c ≤ x1
          · rw [if_pos hc2] at hc
            refine ay_t_pos (pc := 51) hc2 fe_204_51 rfl ?_
            refine ay_t_loc (pc := 58) fe_204_58 rfl ?_
            refine ay_t_loc (pc := 59) (L' := [some (.ref 321), some (.int x1), some (.int x2), some (.int c), some (.int x4)]) fe_204_59 rfl ?_
            refine ay_t_loc (pc := 60) (L' := [some (.ref 321), some (.int x1), some (.int (x2 + 1)), some (.int c), some (.int x4)]) fe_204_60 rfl ?_
            refine ay_t_br (pc := 63) (pc' := 4) fe_204_63 rfl ?_
            exact ay_t_less (ay_ls (ay_ls (ay_ls (ay_ln (ay_ln ay_l0))))) (ih _ _ _ _ _ hc)
          · rw [if_neg hc2] at hc
            refine ay_t_neg (pc := 51) hc2 fe_204_51 rfl ?_
            refine ay_t_loc (pc := 54) fe_204_54 rfl ?_
            refine ay_t_br (pc := 55) (pc' := 59) fe_204_55 rfl ?_
            refine ay_t_loc (pc := 59) (L' := [some (.ref 321), some (.int c), some (.int x2), some (.int c), some (.int x4)]) fe_204_59 rfl ?_
            refine ay_t_loc (pc := 60) (L' := [some (.ref 321), some (.int c), some (.int (x2 + 1)), some (.int c), some (.int x4)]) fe_204_60 rfl ?_
            refine ay_t_br (pc := 63) (pc' := 4) fe_204_63 rfl ?_
            exact ay_t_less (ay_ls (ay_ls (ay_ls (ay_ln (ay_ln ay_l0))))) (ih _ _ _ _ _ hc)
def fn_204 (D : am_DD) : Option (Int32 × am_DD) := fn_204_4 am_F 0 0 D
set_option maxHeartbeats 2000000 in
theorem ev_204 {D : am_DD} {y : Int32} {Z : am_DD} (h : fn_204 D = some (y, Z)) : ay_mo 204 [.ref 321] D (.inl (some (.int y))) Z := by
  unfold fn_204 at h
  refine ay_m_of (L := [some (.ref 321), none, none, none, none]) rfl ?_
  refine ay_t_stk (pc := 0) (S' := [.int 0]) fe_204_0 rfl ?_
  refine ay_t_loc (pc := 1) (L' := [some (.ref 321), some (.int 0), none, none, none]) fe_204_1 rfl ?_
  refine ay_t_stk (pc := 2) (S' := [.int 0]) fe_204_2 rfl ?_
  refine ay_t_loc (pc := 3) (L' := [some (.ref 321), some (.int 0), some (.int 0), none, none]) fe_204_3 rfl ?_
  exact ay_t_less (ay_ls (ay_ls (ay_ls (ay_ls (ay_ls ay_l0))))) (ev_204_4 _ _ _ _ _ _ h)
def fn_186 (a1 : Int32) (D : am_DD) : Option (Int32 × am_DD) := (if 0 ≤ a1 then (match fn_29 0 D with | none => none | some (y2, D3) => (if y2 = 0 then some (0, D3) else (match fn_185 a1 D3 with | none => none | some (y6, D7) => some (y6, D7)))) else (match fn_29 1 D with | none => none | some (y9, D10) => (if y9 = 0 then some (0, D10) else (match fn_185 a1 D10 with | none => none | some (y13, D14) => some (y13, D14)))))
set_option maxHeartbeats 2000000 in
theorem ev_186 {a1 : Int32} {D : am_DD} {y : Int32} {Z : am_DD} (h : fn_186 a1 D = some (y, Z)) : ay_mo 186 [.ref 321, .int a1] D (.inl (some (.int y))) Z := by
  unfold fn_186 at h
  refine ay_m_of (L := [some (.ref 321), some (.int a1)]) rfl ?_
  refine ay_t_loc (pc := 0) fe_186_0 rfl ?_
  refine ay_t_loc (pc := 1) fe_186_1 rfl ?_
  by_cases hc1 : 0 ≤ a1
  · rw [if_pos hc1] at h
    refine ay_t_pos (pc := 2) hc1 fe_186_2 rfl ?_
    refine ay_t_stk (pc := 9) (S' := [.int 0, .ref 321]) fe_186_9 rfl ?_
    cases hk4 : fn_29 0 D with
    | none => rw [hk4] at h; cases h
    | some z =>
      obtain ⟨y2, D3⟩ := z
      rw [hk4] at h
      dsimp only at h
      refine ay_t_call (pc := 10) (w := some (.int y2)) fe_186_10 (ay_args [.ref 321, .int 0] [] rfl rfl (Nat.le_of_ble_eq_true rfl) (Nat.le_of_ble_eq_true rfl)) (ay_rcvV at_321 rfl) (ev_29 hk4) ?_
      by_cases hc5 : y2 = 0
      · rw [if_pos hc5] at h
        refine ay_t_pos (pc := 13) hc5 fe_186_13 rfl ?_
        refine ay_t_stk (pc := 24) (S' := [.int 0]) fe_186_24 rfl ?_
        cases h
        exact ay_t_iret fe_186_25 rfl rfl
      · rw [if_neg hc5] at h
        refine ay_t_neg (pc := 13) hc5 fe_186_13 rfl ?_
        refine ay_t_loc (pc := 16) fe_186_16 rfl ?_
        refine ay_t_loc (pc := 17) fe_186_17 rfl ?_
        cases hk8 : fn_185 a1 D3 with
        | none => rw [hk8] at h; cases h
        | some z =>
          obtain ⟨y6, D7⟩ := z
          rw [hk8] at h
          dsimp only at h
          refine ay_t_call (pc := 18) (w := some (.int y6)) fe_186_18 (ay_args [.ref 321, .int a1] [] rfl rfl (Nat.le_of_ble_eq_true rfl) (Nat.le_of_ble_eq_true rfl)) (ay_rcvV at_321 rfl) (ev_185 hk8) ?_
          refine ay_t_br (pc := 21) (pc' := 25) fe_186_21 rfl ?_
          cases h
          exact ay_t_iret fe_186_25 rfl rfl
  · rw [if_neg hc1] at h
    refine ay_t_neg (pc := 2) hc1 fe_186_2 rfl ?_
    refine ay_t_stk (pc := 5) (S' := [.int 1, .ref 321]) fe_186_5 rfl ?_
    refine ay_t_br (pc := 6) (pc' := 10) fe_186_6 rfl ?_
    cases hk11 : fn_29 1 D with
    | none => rw [hk11] at h; cases h
    | some z =>
      obtain ⟨y9, D10⟩ := z
      rw [hk11] at h
      dsimp only at h
      refine ay_t_call (pc := 10) (w := some (.int y9)) fe_186_10 (ay_args [.ref 321, .int 1] [] rfl rfl (Nat.le_of_ble_eq_true rfl) (Nat.le_of_ble_eq_true rfl)) (ay_rcvV at_321 rfl) (ev_29 hk11) ?_
      by_cases hc12 : y9 = 0
      · rw [if_pos hc12] at h
        refine ay_t_pos (pc := 13) hc12 fe_186_13 rfl ?_
        refine ay_t_stk (pc := 24) (S' := [.int 0]) fe_186_24 rfl ?_
        cases h
        exact ay_t_iret fe_186_25 rfl rfl
      · rw [if_neg hc12] at h
        refine ay_t_neg (pc := 13) hc12 fe_186_13 rfl ?_
        refine ay_t_loc (pc := 16) fe_186_16 rfl ?_
        refine ay_t_loc (pc := 17) fe_186_17 rfl ?_
        cases hk15 : fn_185 a1 D10 with
        | none => rw [hk15] at h; cases h
        | some z =>
          obtain ⟨y13, D14⟩ := z
          rw [hk15] at h
          dsimp only at h
          refine ay_t_call (pc := 18) (w := some (.int y13)) fe_186_18 (ay_args [.ref 321, .int a1] [] rfl rfl (Nat.le_of_ble_eq_true rfl) (Nat.le_of_ble_eq_true rfl)) (ay_rcvV at_321 rfl) (ev_185 hk15) ?_
          refine ay_t_br (pc := 21) (pc' := 25) fe_186_21 rfl ?_
          cases h
          exact ay_t_iret fe_186_25 rfl rfl
def fn_188_9 : Nat → Int32 → am_DD → Option (Int32 × am_DD)
  | 0, _, _ => none
  | n + 1, x1, D => (if (D 26 1) ≤ x1 then some (0, D) else (match fn_177 x1 D with | none => none | some (y2, D3) => fn_188_9 n (x1 + 1) (rw_raise D3 42 31 y2 1)))
set_option maxHeartbeats 2000000 in
theorem ev_188_9 : ∀ (n : Nat) (x1 : Int32) (D : am_DD) (y : Int32) (Z : am_DD), fn_188_9 n x1 D = some (y, Z) → ay_to 188 9 [some (.ref 40), some (.int x1)] [] D (.inl none) Z := by
  intro n
  induction n with
  | zero => intro x1 D y Z h; cases h
  | succ n ih =>
    intro x1 D y Z h
    rw [fn_188_9] at h
    refine ay_t_loc (pc := 9) fe_188_9 rfl ?_
    refine ay_t_loc (pc := 10) fe_188_10 rfl ?_
    refine ay_t_getR (pc := 11) (w := .ref 26) fe_188_11 at_40 (by decide +kernel) rfl ?_
    refine ay_t_getI (pc := 14) fe_188_14 at_26 (by decide +kernel) rfl ?_
    by_cases hc1 : (D 26 1) ≤ x1
    · rw [if_pos hc1] at h
      refine ay_t_pos (pc := 17) hc1 fe_188_17 rfl ?_
      cases h
      exact ay_t_vret fe_188_42 rfl
    · rw [if_neg hc1] at h
      refine ay_t_neg (pc := 17) hc1 fe_188_17 rfl ?_
      refine ay_t_loc (pc := 20) fe_188_20 rfl ?_
      refine ay_t_getR (pc := 21) (w := .ref 41) fe_188_21 at_40 (by decide +kernel) rfl ?_
      refine ay_t_loc (pc := 24) fe_188_24 rfl ?_
      refine ay_t_getR (pc := 25) (w := .ref 26) fe_188_25 at_40 (by decide +kernel) rfl ?_
      refine ay_t_loc (pc := 28) fe_188_28 rfl ?_
      cases hk4 : fn_177 x1 D with
      | none => rw [hk4] at h; cases h
      | some z =>
        obtain ⟨y2, D3⟩ := z
        rw [hk4] at h
        dsimp only at h
        refine ay_t_call (pc := 29) (w := some (.int y2)) fe_188_29 (ay_args [.ref 26, .int x1] [.ref 41] rfl rfl (Nat.le_of_ble_eq_true rfl) (Nat.le_of_ble_eq_true rfl)) (ay_rcvV at_26 rfl) (ev_177 hk4) ?_
        refine ay_t_stk (pc := 32) (S' := [.int 1, .int y2, .ref 41]) fe_188_32 rfl ?_
        refine ay_t_call (pc := 33) (w := none) fe_188_33 (ay_args [.ref 41, .int y2, .int 1] [] rfl rfl (Nat.le_of_ble_eq_true rfl) (Nat.le_of_ble_eq_true rfl)) (ay_rcvV at_41 rfl) (mt_raise at_41 at_42 (by decide)) ?_
        refine ay_t_loc (pc := 36) (L' := [some (.ref 40), some (.int (x1 + 1))]) fe_188_36 rfl ?_
        refine ay_t_br (pc := 39) (pc' := 9) fe_188_39 rfl ?_
        exact ay_t_less (ay_ls (ay_ls ay_l0)) (ih _ _ _ _ h)
def fn_188 (D : am_DD) : Option (Int32 × am_DD) := fn_188_9 am_F 0 (rw_wipe D 42 31)
set_option maxHeartbeats 2000000 in
theorem ev_188 {D : am_DD} {y : Int32} {Z : am_DD} (h : fn_188  D = some (y, Z)) : ay_mo 188 [.ref 40] D (.inl none) Z := by
  unfold fn_188 at h
  refine ay_m_of (L := [some (.ref 40), none]) rfl ?_
  refine ay_t_loc (pc := 0) fe_188_0 rfl ?_
  refine ay_t_getR (pc := 1) (w := .ref 41) fe_188_1 at_40 (by decide +kernel) rfl ?_
  refine ay_t_call (pc := 4) (w := none) fe_188_4 (ay_args [.ref 41] [] rfl rfl (Nat.le_of_ble_eq_true rfl) (Nat.le_of_ble_eq_true rfl)) (ay_rcvV at_41 rfl) (mt_wipe at_41 at_42 (by decide)) ?_
  refine ay_t_stk (pc := 7) (S' := [.int 0]) fe_188_7 rfl ?_
  refine ay_t_loc (pc := 8) (L' := [some (.ref 40), some (.int 0)]) fe_188_8 rfl ?_
  exact ay_t_less (ay_ls (ay_ls ay_l0)) (ev_188_9 _ _ _ _ _ h)
def fn_189_8 : Nat → Int32 → Int32 → am_DD → Option (Int32 × am_DD)
  | 0, _, _, _ => none
  | n + 1, x1, x2, D => (if 31 ≤ x2 then some (x1, D) else (if (rw_at (D 42) 31 x2) ≤ 0 then fn_189_8 n (x1 + 0) (x2 + 1) D else fn_189_8 n (x1 + 1) (x2 + 1) D))
set_option maxHeartbeats 2000000 in
theorem ev_189_8 : ∀ (n : Nat) (x1 x2 : Int32) (D : am_DD) (y : Int32) (Z : am_DD), fn_189_8 n x1 x2 D = some (y, Z) → ay_to 189 8 [some (.ref 40), some (.int x1), some (.int x2)] [] D (.inl (some (.int y))) Z := by
  intro n
  induction n with
  | zero => intro x1 x2 D y Z h; cases h
  | succ n ih =>
    intro x1 x2 D y Z h
    rw [fn_189_8] at h
    refine ay_t_loc (pc := 8) fe_189_8 rfl ?_
    refine ay_t_stk (pc := 9) (S' := [.int 31, .int x2]) fe_189_9 rfl ?_
    by_cases hc4 : 31 ≤ x2
    · rw [if_pos hc4] at h
      refine ay_t_pos (pc := 11) hc4 fe_189_11 rfl ?_
      refine ay_t_loc (pc := 39) fe_189_39 rfl ?_
      cases h
      exact ay_t_iret fe_189_40 rfl rfl
    · rw [if_neg hc4] at h
      refine ay_t_neg (pc := 11) hc4 fe_189_11 rfl ?_
      refine ay_t_loc (pc := 14) fe_189_14 rfl ?_
      refine ay_t_loc (pc := 15) fe_189_15 rfl ?_
      refine ay_t_getR (pc := 16) (w := .ref 41) fe_189_16 at_40 (by decide +kernel) rfl ?_
      refine ay_t_loc (pc := 19) fe_189_19 rfl ?_
      refine ay_t_call (pc := 20) (w := some (.int (rw_at (D 42) 31 x2))) fe_189_20 (ay_args [.ref 41, .int x2] [.int x1] rfl rfl (Nat.le_of_ble_eq_true rfl) (Nat.le_of_ble_eq_true rfl)) (ay_rcvV at_41 rfl) (mt_at at_41 at_42 (by decide)) ?_
      by_cases hc5 : (rw_at (D 42) 31 x2) ≤ 0
      · rw [if_pos hc5] at h
        refine ay_t_pos (pc := 23) hc5 fe_189_23 rfl ?_
        refine ay_t_stk (pc := 30) (S' := [.int 0, .int x1]) fe_189_30 rfl ?_
        refine ay_t_stk (pc := 31) (S' := [.int (x1 + 0)]) fe_189_31 rfl ?_
        refine ay_t_loc (pc := 32) (L' := [some (.ref 40), some (.int (x1 + 0)), some (.int x2)]) fe_189_32 rfl ?_
        refine ay_t_loc (pc := 33) (L' := [some (.ref 40), some (.int (x1 + 0)), some (.int (x2 + 1))]) fe_189_33 rfl ?_
        refine ay_t_br (pc := 36) (pc' := 8) fe_189_36 rfl ?_
        exact ay_t_less (ay_ls (ay_ls (ay_ls ay_l0))) (ih _ _ _ _ _ h)
      · rw [if_neg hc5] at h
        refine ay_t_neg (pc := 23) hc5 fe_189_23 rfl ?_
        refine ay_t_stk (pc := 26) (S' := [.int 1, .int x1]) fe_189_26 rfl ?_
        refine ay_t_br (pc := 27) (pc' := 31) fe_189_27 rfl ?_
        refine ay_t_stk (pc := 31) (S' := [.int (x1 + 1)]) fe_189_31 rfl ?_
        refine ay_t_loc (pc := 32) (L' := [some (.ref 40), some (.int (x1 + 1)), some (.int x2)]) fe_189_32 rfl ?_
        refine ay_t_loc (pc := 33) (L' := [some (.ref 40), some (.int (x1 + 1)), some (.int (x2 + 1))]) fe_189_33 rfl ?_
        refine ay_t_br (pc := 36) (pc' := 8) fe_189_36 rfl ?_
        exact ay_t_less (ay_ls (ay_ls (ay_ls ay_l0))) (ih _ _ _ _ _ h)
def fn_189 (D : am_DD) : Option (Int32 × am_DD) := (match fn_188 D with | none => none | some (y1, D2) => fn_189_8 am_F 0 0 D2)
set_option maxHeartbeats 2000000 in
theorem ev_189 {D : am_DD} {y : Int32} {Z : am_DD} (h : fn_189  D = some (y, Z)) : ay_mo 189 [.ref 40] D (.inl (some (.int y))) Z := by
  unfold fn_189 at h
  refine ay_m_of (L := [some (.ref 40), none, none]) rfl ?_
  refine ay_t_loc (pc := 0) fe_189_0 rfl ?_
  cases hk3 : fn_188 D with
  | none => rw [hk3] at h; cases h
  | some z =>
    obtain ⟨y1, D2⟩ := z
    rw [hk3] at h
    dsimp only at h
    refine ay_t_call (pc := 1) (w := none) fe_189_1 (ay_args [.ref 40] [] rfl rfl (Nat.le_of_ble_eq_true rfl) (Nat.le_of_ble_eq_true rfl)) (ay_rcvV at_40 rfl) (ev_188 hk3) ?_
    refine ay_t_stk (pc := 4) (S' := [.int 0]) fe_189_4 rfl ?_
    refine ay_t_loc (pc := 5) (L' := [some (.ref 40), some (.int 0), none]) fe_189_5 rfl ?_
    refine ay_t_stk (pc := 6) (S' := [.int 0]) fe_189_6 rfl ?_
    refine ay_t_loc (pc := 7) (L' := [some (.ref 40), some (.int 0), some (.int 0)]) fe_189_7 rfl ?_
    exact ay_t_less (ay_ls (ay_ls (ay_ls ay_l0))) (ev_189_8 _ _ _ _ _ _ h)
def fn_190_20 : Nat → Int32 → Int32 → am_DD → Option (Int32 × am_DD)
  | 0, _, _, _ => none
  | n + 1, x1, x2, D => (if 31 ≤ x2 then some (x1, D) else (if (rw_at (D 42) 31 x2) ≤ (rw_at (D 42) 31 x1) then fn_190_20 n x1 (x2 + 1) D else fn_190_20 n x2 (x2 + 1) D))
set_option maxHeartbeats 2000000 in
theorem ev_190_20 : ∀ (n : Nat) (x1 x2 : Int32) (D : am_DD) (y : Int32) (Z : am_DD), fn_190_20 n x1 x2 D = some (y, Z) → ay_to 190 20 [some (.ref 40), some (.int x1), some (.int x2)] [] D (.inl (some (.int y))) Z := by
  intro n
  induction n with
  | zero => intro x1 x2 D y Z h; cases h
  | succ n ih =>
    intro x1 x2 D y Z h
    rw [fn_190_20] at h
    refine ay_t_loc (pc := 20) fe_190_20 rfl ?_
    refine ay_t_stk (pc := 21) (S' := [.int 31, .int x2]) fe_190_21 rfl ?_
    by_cases hc5 : 31 ≤ x2
    · rw [if_pos hc5] at h
      refine ay_t_pos (pc := 23) hc5 fe_190_23 rfl ?_
      refine ay_t_loc (pc := 53) fe_190_53 rfl ?_
      cases h
      exact ay_t_iret fe_190_54 rfl rfl
    · rw [if_neg hc5] at h
      refine ay_t_neg (pc := 23) hc5 fe_190_23 rfl ?_
      refine ay_t_loc (pc := 26) fe_190_26 rfl ?_
      refine ay_t_getR (pc := 27) (w := .ref 41) fe_190_27 at_40 (by decide +kernel) rfl ?_
      refine ay_t_loc (pc := 30) fe_190_30 rfl ?_
      refine ay_t_call (pc := 31) (w := some (.int (rw_at (D 42) 31 x2))) fe_190_31 (ay_args [.ref 41, .int x2] [] rfl rfl (Nat.le_of_ble_eq_true rfl) (Nat.le_of_ble_eq_true rfl)) (ay_rcvV at_41 rfl) (mt_at at_41 at_42 (by decide)) ?_
      refine ay_t_loc (pc := 34) fe_190_34 rfl ?_
      refine ay_t_getR (pc := 35) (w := .ref 41) fe_190_35 at_40 (by decide +kernel) rfl ?_
      refine ay_t_loc (pc := 38) fe_190_38 rfl ?_
      refine ay_t_call (pc := 39) (w := some (.int (rw_at (D 42) 31 x1))) fe_190_39 (ay_args [.ref 41, .int x1] [.int (rw_at (D 42) 31 x2)] rfl rfl (Nat.le_of_ble_eq_true rfl) (Nat.le_of_ble_eq_true rfl)) (ay_rcvV at_41 rfl) (mt_at at_41 at_42 (by decide)) ?_
      by_cases hc6 : (rw_at (D 42) 31 x2) ≤ (rw_at (D 42) 31 x1)
      · rw [if_pos hc6] at h
        refine ay_t_pos (pc := 42) hc6 fe_190_42 rfl ?_
        refine ay_t_loc (pc := 47) (L' := [some (.ref 40), some (.int x1), some (.int (x2 + 1))]) fe_190_47 rfl ?_
        refine ay_t_br (pc := 50) (pc' := 20) fe_190_50 rfl ?_
        exact ay_t_less (ay_ls (ay_ls (ay_ls ay_l0))) (ih _ _ _ _ _ h)
      · rw [if_neg hc6] at h
        refine ay_t_neg (pc := 42) hc6 fe_190_42 rfl ?_
        refine ay_t_loc (pc := 45) fe_190_45 rfl ?_
        refine ay_t_loc (pc := 46) (L' := [some (.ref 40), some (.int x2), some (.int x2)]) fe_190_46 rfl ?_
        refine ay_t_loc (pc := 47) (L' := [some (.ref 40), some (.int x2), some (.int (x2 + 1))]) fe_190_47 rfl ?_
        refine ay_t_br (pc := 50) (pc' := 20) fe_190_50 rfl ?_
        exact ay_t_less (ay_ls (ay_ls (ay_ls ay_l0))) (ih _ _ _ _ _ h)
def fn_190 (D : am_DD) : Option (Int32 × am_DD) := (if ¬ (D 26 1) = 0 then (match fn_188 D with | none => none | some (y2, D3) => fn_190_20 am_F 0 1 D3) else some ((-1), D))
set_option maxHeartbeats 2000000 in
theorem ev_190 {D : am_DD} {y : Int32} {Z : am_DD} (h : fn_190  D = some (y, Z)) : ay_mo 190 [.ref 40] D (.inl (some (.int y))) Z := by
  unfold fn_190 at h
  refine ay_m_of (L := [some (.ref 40), none, none]) rfl ?_
  refine ay_t_loc (pc := 0) fe_190_0 rfl ?_
  refine ay_t_getR (pc := 1) (w := .ref 26) fe_190_1 at_40 (by decide +kernel) rfl ?_
  refine ay_t_getI (pc := 4) fe_190_4 at_26 (by decide +kernel) rfl ?_
  by_cases hc1 : ¬ (D 26 1) = 0
  · rw [if_pos hc1] at h
    refine ay_t_pos (pc := 7) hc1 fe_190_7 rfl ?_
    refine ay_t_loc (pc := 12) fe_190_12 rfl ?_
    cases hk4 : fn_188 D with
    | none => rw [hk4] at h; cases h
    | some z =>
      obtain ⟨y2, D3⟩ := z
      rw [hk4] at h
      dsimp only at h
      refine ay_t_call (pc := 13) (w := none) fe_190_13 (ay_args [.ref 40] [] rfl rfl (Nat.le_of_ble_eq_true rfl) (Nat.le_of_ble_eq_true rfl)) (ay_rcvV at_40 rfl) (ev_188 hk4) ?_
      refine ay_t_stk (pc := 16) (S' := [.int 0]) fe_190_16 rfl ?_
      refine ay_t_loc (pc := 17) (L' := [some (.ref 40), some (.int 0), none]) fe_190_17 rfl ?_
      refine ay_t_stk (pc := 18) (S' := [.int 1]) fe_190_18 rfl ?_
      refine ay_t_loc (pc := 19) (L' := [some (.ref 40), some (.int 0), some (.int 1)]) fe_190_19 rfl ?_
      exact ay_t_less (ay_ls (ay_ls (ay_ls ay_l0))) (ev_190_20 _ _ _ _ _ _ h)
  · rw [if_neg hc1] at h
    refine ay_t_neg (pc := 7) hc1 fe_190_7 rfl ?_
    refine ay_t_stk (pc := 10) (S' := [.int (-1)]) fe_190_10 rfl ?_
    cases h
    exact ay_t_iret fe_190_11 rfl rfl
def fn_191_9 : Nat → Int32 → Int32 → am_DD → Option (Int32 × am_DD)
  | 0, _, _, _ => none
  | n + 1, x1, x2, D => (if (D 26 1) ≤ x2 then some (0, D) else (match fn_177 x2 D with | none => none | some (y2, D3) => (if x2 = ((D3 26 1) - 1) then fn_191_9 n 0 (x2 + 1) (am_upd (rw_put D3 44 60 (D3 40 3) (x1 ||| (1 <<< (y2 &&& 31)))) 40 3 (((rw_put D3 44 60 (D3 40 3) (x1 ||| (1 <<< (y2 &&& 31)))) 40 3) + 1)) else (match fn_175 (x2 + 1) D3 with | none => none | some (y6, D7) => (match fn_175 x2 D7 with | none => none | some (y9, D10) => (if y6 = y9 then fn_191_9 n (x1 ||| (1 <<< (y2 &&& 31))) (x2 + 1) D10 else fn_191_9 n 0 (x2 + 1) (am_upd (rw_put D10 44 60 (D10 40 3) (x1 ||| (1 <<< (y2 &&& 31)))) 40 3 (((rw_put D10 44 60 (D10 40 3) (x1 ||| (1 <<< (y2 &&& 31)))) 40 3) + 1))))))))
set_option maxHeartbeats 2000000 in
theorem ev_191_9 : ∀ (n : Nat) (x1 x2 : Int32) (D : am_DD) (y : Int32) (Z : am_DD), fn_191_9 n x1 x2 D = some (y, Z) → ay_to 191 9 [some (.ref 40), some (.int x1), some (.int x2)] [] D (.inl none) Z := by
  intro n
  induction n with
  | zero => intro x1 x2 D y Z h; cases h
  | succ n ih =>
    intro x1 x2 D y Z h
    rw [fn_191_9] at h
    refine ay_t_loc (pc := 9) fe_191_9 rfl ?_
    refine ay_t_loc (pc := 10) fe_191_10 rfl ?_
    refine ay_t_getR (pc := 11) (w := .ref 26) fe_191_11 at_40 (by decide +kernel) rfl ?_
    refine ay_t_getI (pc := 14) fe_191_14 at_26 (by decide +kernel) rfl ?_
    by_cases hc1 : (D 26 1) ≤ x2
    · rw [if_pos hc1] at h
      refine ay_t_pos (pc := 17) hc1 fe_191_17 rfl ?_
      cases h
      exact ay_t_vret fe_191_97 rfl
    · rw [if_neg hc1] at h
      refine ay_t_neg (pc := 17) hc1 fe_191_17 rfl ?_
      refine ay_t_loc (pc := 20) fe_191_20 rfl ?_
      refine ay_t_stk (pc := 21) (S' := [.int 1, .int x1]) fe_191_21 rfl ?_
      refine ay_t_loc (pc := 22) fe_191_22 rfl ?_
      refine ay_t_getR (pc := 23) (w := .ref 26) fe_191_23 at_40 (by decide +kernel) rfl ?_
      refine ay_t_loc (pc := 26) fe_191_26 rfl ?_
      cases hk4 : fn_177 x2 D with
      | none => rw [hk4] at h; cases h
      | some z =>
        obtain ⟨y2, D3⟩ := z
        rw [hk4] at h
        dsimp only at h
        refine ay_t_call (pc := 27) (w := some (.int y2)) fe_191_27 (ay_args [.ref 26, .int x2] [.int 1, .int x1] rfl rfl (Nat.le_of_ble_eq_true rfl) (Nat.le_of_ble_eq_true rfl)) (ay_rcvV at_26 rfl) (ev_177 hk4) ?_
        refine ay_t_stk (pc := 30) (S' := [.int (1 <<< (y2 &&& 31)), .int x1]) fe_191_30 rfl ?_
        refine ay_t_stk (pc := 31) (S' := [.int (x1 ||| (1 <<< (y2 &&& 31)))]) fe_191_31 rfl ?_
        refine ay_t_loc (pc := 32) (L' := [some (.ref 40), some (.int (x1 ||| (1 <<< (y2 &&& 31)))), some (.int x2)]) fe_191_32 rfl ?_
        refine ay_t_loc (pc := 33) fe_191_33 rfl ?_
        refine ay_t_loc (pc := 34) fe_191_34 rfl ?_
        refine ay_t_getR (pc := 35) (w := .ref 26) fe_191_35 at_40 (by decide +kernel) rfl ?_
        refine ay_t_getI (pc := 38) fe_191_38 at_26 (by decide +kernel) rfl ?_
        refine ay_t_stk (pc := 41) (S' := [.int 1, .int (D3 26 1), .int x2]) fe_191_41 rfl ?_
        refine ay_t_stk (pc := 42) (S' := [.int ((D3 26 1) - 1), .int x2]) fe_191_42 rfl ?_
        by_cases hc5 : x2 = ((D3 26 1) - 1)
        · rw [if_pos hc5] at h
          refine ay_t_pos (pc := 43) hc5 fe_191_43 rfl ?_
          refine ay_t_loc (pc := 67) fe_191_67 rfl ?_
          refine ay_t_getR (pc := 68) (w := .ref 43) fe_191_68 at_40 (by decide +kernel) rfl ?_
          refine ay_t_loc (pc := 71) fe_191_71 rfl ?_
          refine ay_t_getI (pc := 72) fe_191_72 at_40 (by decide +kernel) rfl ?_
          refine ay_t_loc (pc := 75) fe_191_75 rfl ?_
          refine ay_t_call (pc := 76) (w := none) fe_191_76 (ay_args [.ref 43, .int (D3 40 3), .int (x1 ||| (1 <<< (y2 &&& 31)))] [] rfl rfl (Nat.le_of_ble_eq_true rfl) (Nat.le_of_ble_eq_true rfl)) (ay_rcvV at_43 rfl) (mt_put at_43 at_44 (by decide)) ?_
          refine ay_t_loc (pc := 79) fe_191_79 rfl ?_
          refine ay_t_stk (pc := 80) (S' := [.ref 40, .ref 40]) fe_191_80 rfl ?_
          refine ay_t_getI (pc := 81) fe_191_81 at_40 (by decide +kernel) rfl ?_
          refine ay_t_stk (pc := 84) (S' := [.int 1, .int ((rw_put D3 44 60 (D3 40 3) (x1 ||| (1 <<< (y2 &&& 31)))) 40 3), .ref 40]) fe_191_84 rfl ?_
          refine ay_t_stk (pc := 85) (S' := [.int (((rw_put D3 44 60 (D3 40 3) (x1 ||| (1 <<< (y2 &&& 31)))) 40 3) + 1), .ref 40]) fe_191_85 rfl ?_
          refine ay_t_put (pc := 86) fe_191_86 at_40 (by decide +kernel) rfl rfl ?_
          refine ay_t_stk (pc := 89) (S' := [.int 0]) fe_191_89 rfl ?_
          refine ay_t_loc (pc := 90) (L' := [some (.ref 40), some (.int 0), some (.int x2)]) fe_191_90 rfl ?_
          refine ay_t_loc (pc := 91) (L' := [some (.ref 40), some (.int 0), some (.int (x2 + 1))]) fe_191_91 rfl ?_
          refine ay_t_br (pc := 94) (pc' := 9) fe_191_94 rfl ?_
          exact ay_t_less (ay_ls (ay_ls (ay_ls ay_l0))) (ih _ _ _ _ _ h)
        · rw [if_neg hc5] at h
          refine ay_t_neg (pc := 43) hc5 fe_191_43 rfl ?_
          refine ay_t_loc (pc := 46) fe_191_46 rfl ?_
          refine ay_t_getR (pc := 47) (w := .ref 26) fe_191_47 at_40 (by decide +kernel) rfl ?_
          refine ay_t_loc (pc := 50) fe_191_50 rfl ?_
          refine ay_t_stk (pc := 51) (S' := [.int 1, .int x2, .ref 26]) fe_191_51 rfl ?_
          refine ay_t_stk (pc := 52) (S' := [.int (x2 + 1), .ref 26]) fe_191_52 rfl ?_
          cases hk8 : fn_175 (x2 + 1) D3 with
          | none => rw [hk8] at h; cases h
          | some z =>
            obtain ⟨y6, D7⟩ := z
            rw [hk8] at h
            dsimp only at h
            refine ay_t_call (pc := 53) (w := some (.int y6)) fe_191_53 (ay_args [.ref 26, .int (x2 + 1)] [] rfl rfl (Nat.le_of_ble_eq_true rfl) (Nat.le_of_ble_eq_true rfl)) (ay_rcvV at_26 rfl) (ev_175 hk8) ?_
            refine ay_t_loc (pc := 56) fe_191_56 rfl ?_
            refine ay_t_getR (pc := 57) (w := .ref 26) fe_191_57 at_40 (by decide +kernel) rfl ?_
            refine ay_t_loc (pc := 60) fe_191_60 rfl ?_
            cases hk11 : fn_175 x2 D7 with
            | none => rw [hk11] at h; cases h
            | some z =>
              obtain ⟨y9, D10⟩ := z
              rw [hk11] at h
              dsimp only at h
              refine ay_t_call (pc := 61) (w := some (.int y9)) fe_191_61 (ay_args [.ref 26, .int x2] [.int y6] rfl rfl (Nat.le_of_ble_eq_true rfl) (Nat.le_of_ble_eq_true rfl)) (ay_rcvV at_26 rfl) (ev_175 hk11) ?_
              by_cases hc12 : y6 = y9
              · rw [if_pos hc12] at h
                refine ay_t_pos (pc := 64) hc12 fe_191_64 rfl ?_
                refine ay_t_loc (pc := 91) (L' := [some (.ref 40), some (.int (x1 ||| (1 <<< (y2 &&& 31)))), some (.int (x2 + 1))]) fe_191_91 rfl ?_
                refine ay_t_br (pc := 94) (pc' := 9) fe_191_94 rfl ?_
                exact ay_t_less (ay_ls (ay_ls (ay_ls ay_l0))) (ih _ _ _ _ _ h)
              · rw [if_neg hc12] at h
                refine ay_t_neg (pc := 64) hc12 fe_191_64 rfl ?_
                refine ay_t_loc (pc := 67) fe_191_67 rfl ?_
                refine ay_t_getR (pc := 68) (w := .ref 43) fe_191_68 at_40 (by decide +kernel) rfl ?_
                refine ay_t_loc (pc := 71) fe_191_71 rfl ?_
                refine ay_t_getI (pc := 72) fe_191_72 at_40 (by decide +kernel) rfl ?_
                refine ay_t_loc (pc := 75) fe_191_75 rfl ?_
                refine ay_t_call (pc := 76) (w := none) fe_191_76 (ay_args [.ref 43, .int (D10 40 3), .int (x1 ||| (1 <<< (y2 &&& 31)))] [] rfl rfl (Nat.le_of_ble_eq_true rfl) (Nat.le_of_ble_eq_true rfl)) (ay_rcvV at_43 rfl) (mt_put at_43 at_44 (by decide)) ?_
                refine ay_t_loc (pc := 79) fe_191_79 rfl ?_
                refine ay_t_stk (pc := 80) (S' := [.ref 40, .ref 40]) fe_191_80 rfl ?_
                refine ay_t_getI (pc := 81) fe_191_81 at_40 (by decide +kernel) rfl ?_
                refine ay_t_stk (pc := 84) (S' := [.int 1, .int ((rw_put D10 44 60 (D10 40 3) (x1 ||| (1 <<< (y2 &&& 31)))) 40 3), .ref 40]) fe_191_84 rfl ?_
                refine ay_t_stk (pc := 85) (S' := [.int (((rw_put D10 44 60 (D10 40 3) (x1 ||| (1 <<< (y2 &&& 31)))) 40 3) + 1), .ref 40]) fe_191_85 rfl ?_
                refine ay_t_put (pc := 86) fe_191_86 at_40 (by decide +kernel) rfl rfl ?_
                refine ay_t_stk (pc := 89) (S' := [.int 0]) fe_191_89 rfl ?_
                refine ay_t_loc (pc := 90) (L' := [some (.ref 40), some (.int 0), some (.int x2)]) fe_191_90 rfl ?_
                refine ay_t_loc (pc := 91) (L' := [some (.ref 40), some (.int 0), some (.int (x2 + 1))]) fe_191_91 rfl ?_
                refine ay_t_br (pc := 94) (pc' := 9) fe_191_94 rfl ?_
                exact ay_t_less (ay_ls (ay_ls (ay_ls ay_l0))) (ih _ _ _ _ _ h)
def fn_191 (D : am_DD) : Option (Int32 × am_DD) := fn_191_9 am_F 0 0 (am_upd D 40 3 0)
set_option maxHeartbeats 2000000 in
theorem ev_191 {D : am_DD} {y : Int32} {Z : am_DD} (h : fn_191  D = some (y, Z)) : ay_mo 191 [.ref 40] D (.inl none) Z := by
  unfold fn_191 at h
  refine ay_m_of (L := [some (.ref 40), none, none]) rfl ?_
  refine ay_t_loc (pc := 0) fe_191_0 rfl ?_
  refine ay_t_stk (pc := 1) (S' := [.int 0, .ref 40]) fe_191_1 rfl ?_
  refine ay_t_put (pc := 2) fe_191_2 at_40 (by decide +kernel) rfl rfl ?_
  refine ay_t_stk (pc := 5) (S' := [.int 0]) fe_191_5 rfl ?_
  refine ay_t_loc (pc := 6) (L' := [some (.ref 40), some (.int 0), none]) fe_191_6 rfl ?_
  refine ay_t_stk (pc := 7) (S' := [.int 0]) fe_191_7 rfl ?_
  refine ay_t_loc (pc := 8) (L' := [some (.ref 40), some (.int 0), some (.int 0)]) fe_191_8 rfl ?_
  exact ay_t_less (ay_ls (ay_ls (ay_ls ay_l0))) (ev_191_9 _ _ _ _ _ _ h)
def fn_192_2 : Nat → Int32 → Int32 → am_DD → Option (Int32 × am_DD)
  | 0, _, _, _ => none
  | n + 1, x1, x2, D => (if x1 ≤ x2 then some (1, D) else (if ¬ (rw_at (D 44) 60 x2) = (rw_at (D 44) 60 x1) then fn_192_2 n x1 (x2 + 1) D else some (0, D)))
set_option maxHeartbeats 2000000 in
theorem ev_192_2 : ∀ (n : Nat) (x1 x2 : Int32) (D : am_DD) (y : Int32) (Z : am_DD), fn_192_2 n x1 x2 D = some (y, Z) → ay_to 192 2 [some (.ref 40), some (.int x1), some (.int x2)] [] D (.inl (some (.int y))) Z := by
  intro n
  induction n with
  | zero => intro x1 x2 D y Z h; cases h
  | succ n ih =>
    intro x1 x2 D y Z h
    rw [fn_192_2] at h
    refine ay_t_loc (pc := 2) fe_192_2 rfl ?_
    refine ay_t_loc (pc := 3) fe_192_3 rfl ?_
    by_cases hc1 : x1 ≤ x2
    · rw [if_pos hc1] at h
      refine ay_t_pos (pc := 4) hc1 fe_192_4 rfl ?_
      refine ay_t_stk (pc := 34) (S' := [.int 1]) fe_192_34 rfl ?_
      cases h
      exact ay_t_iret fe_192_35 rfl rfl
    · rw [if_neg hc1] at h
      refine ay_t_neg (pc := 4) hc1 fe_192_4 rfl ?_
      refine ay_t_loc (pc := 7) fe_192_7 rfl ?_
      refine ay_t_getR (pc := 8) (w := .ref 43) fe_192_8 at_40 (by decide +kernel) rfl ?_
      refine ay_t_loc (pc := 11) fe_192_11 rfl ?_
      refine ay_t_call (pc := 12) (w := some (.int (rw_at (D 44) 60 x2))) fe_192_12 (ay_args [.ref 43, .int x2] [] rfl rfl (Nat.le_of_ble_eq_true rfl) (Nat.le_of_ble_eq_true rfl)) (ay_rcvV at_43 rfl) (mt_at at_43 at_44 (by decide)) ?_
      refine ay_t_loc (pc := 15) fe_192_15 rfl ?_
      refine ay_t_getR (pc := 16) (w := .ref 43) fe_192_16 at_40 (by decide +kernel) rfl ?_
      refine ay_t_loc (pc := 19) fe_192_19 rfl ?_
      refine ay_t_call (pc := 20) (w := some (.int (rw_at (D 44) 60 x1))) fe_192_20 (ay_args [.ref 43, .int x1] [.int (rw_at (D 44) 60 x2)] rfl rfl (Nat.le_of_ble_eq_true rfl) (Nat.le_of_ble_eq_true rfl)) (ay_rcvV at_43 rfl) (mt_at at_43 at_44 (by decide)) ?_
      by_cases hc2 : ¬ (rw_at (D 44) 60 x2) = (rw_at (D 44) 60 x1)
      · rw [if_pos hc2] at h
        refine ay_t_pos (pc := 23) hc2 fe_192_23 rfl ?_
        refine ay_t_loc (pc := 28) (L' := [some (.ref 40), some (.int x1), some (.int (x2 + 1))]) fe_192_28 rfl ?_
        refine ay_t_br (pc := 31) (pc' := 2) fe_192_31 rfl ?_
        exact ay_t_less (ay_ls (ay_ls (ay_ls ay_l0))) (ih _ _ _ _ _ h)
      · rw [if_neg hc2] at h
        refine ay_t_neg (pc := 23) hc2 fe_192_23 rfl ?_
        refine ay_t_stk (pc := 26) (S' := [.int 0]) fe_192_26 rfl ?_
        cases h
        exact ay_t_iret fe_192_27 rfl rfl
def fn_192 (a1 : Int32) (D : am_DD) : Option (Int32 × am_DD) := fn_192_2 am_F a1 0 D
set_option maxHeartbeats 2000000 in
theorem ev_192 {a1 : Int32} {D : am_DD} {y : Int32} {Z : am_DD} (h : fn_192 a1 D = some (y, Z)) : ay_mo 192 [.ref 40, .int a1] D (.inl (some (.int y))) Z := by
  unfold fn_192 at h
  refine ay_m_of (L := [some (.ref 40), some (.int a1), none]) rfl ?_
  refine ay_t_stk (pc := 0) (S' := [.int 0]) fe_192_0 rfl ?_
  refine ay_t_loc (pc := 1) (L' := [some (.ref 40), some (.int a1), some (.int 0)]) fe_192_1 rfl ?_
  exact ay_t_less (ay_ls (ay_ls (ay_ls ay_l0))) (ev_192_2 _ _ _ _ _ _ h)
def fn_193_8 : Nat → Int32 → Int32 → am_DD → Option (Int32 × am_DD)
  | 0, _, _, _ => none
  | n + 1, x1, x2, D => (if (D 40 3) ≤ x2 then some (x1, D) else (match fn_192 x2 D with | none => none | some (y5, D6) => (if y5 = 0 then fn_193_8 n (x1 + 0) (x2 + 1) D6 else fn_193_8 n (x1 + 1) (x2 + 1) D6)))
set_option maxHeartbeats 2000000 in
theorem ev_193_8 : ∀ (n : Nat) (x1 x2 : Int32) (D : am_DD) (y : Int32) (Z : am_DD), fn_193_8 n x1 x2 D = some (y, Z) → ay_to 193 8 [some (.ref 40), some (.int x1), some (.int x2)] [] D (.inl (some (.int y))) Z := by
  intro n
  induction n with
  | zero => intro x1 x2 D y Z h; cases h
  | succ n ih =>
    intro x1 x2 D y Z h
    rw [fn_193_8] at h
    refine ay_t_loc (pc := 8) fe_193_8 rfl ?_
    refine ay_t_loc (pc := 9) fe_193_9 rfl ?_
    refine ay_t_getI (pc := 10) fe_193_10 at_40 (by decide +kernel) rfl ?_
    by_cases hc4 : (D 40 3) ≤ x2
    · rw [if_pos hc4] at h
      refine ay_t_pos (pc := 13) hc4 fe_193_13 rfl ?_
      refine ay_t_loc (pc := 38) fe_193_38 rfl ?_
      cases h
      exact ay_t_iret fe_193_39 rfl rfl
    · rw [if_neg hc4] at h
      refine ay_t_neg (pc := 13) hc4 fe_193_13 rfl ?_
      refine ay_t_loc (pc := 16) fe_193_16 rfl ?_
      refine ay_t_loc (pc := 17) fe_193_17 rfl ?_
      refine ay_t_loc (pc := 18) fe_193_18 rfl ?_
      cases hk7 : fn_192 x2 D with
      | none => rw [hk7] at h; cases h
      | some z =>
        obtain ⟨y5, D6⟩ := z
        rw [hk7] at h
        dsimp only at h
        refine ay_t_call (pc := 19) (w := some (.int y5)) fe_193_19 (ay_args [.ref 40, .int x2] [.int x1] rfl rfl (Nat.le_of_ble_eq_true rfl) (Nat.le_of_ble_eq_true rfl)) (ay_rcvV at_40 rfl) (ev_192 hk7) ?_
        by_cases hc8 : y5 = 0
        · rw [if_pos hc8] at h
          refine ay_t_pos (pc := 22) hc8 fe_193_22 rfl ?_
          refine ay_t_stk (pc := 29) (S' := [.int 0, .int x1]) fe_193_29 rfl ?_
          refine ay_t_stk (pc := 30) (S' := [.int (x1 + 0)]) fe_193_30 rfl ?_
          refine ay_t_loc (pc := 31) (L' := [some (.ref 40), some (.int (x1 + 0)), some (.int x2)]) fe_193_31 rfl ?_
          refine ay_t_loc (pc := 32) (L' := [some (.ref 40), some (.int (x1 + 0)), some (.int (x2 + 1))]) fe_193_32 rfl ?_
          refine ay_t_br (pc := 35) (pc' := 8) fe_193_35 rfl ?_
          exact ay_t_less (ay_ls (ay_ls (ay_ls ay_l0))) (ih _ _ _ _ _ h)
        · rw [if_neg hc8] at h
          refine ay_t_neg (pc := 22) hc8 fe_193_22 rfl ?_
          refine ay_t_stk (pc := 25) (S' := [.int 1, .int x1]) fe_193_25 rfl ?_
          refine ay_t_br (pc := 26) (pc' := 30) fe_193_26 rfl ?_
          refine ay_t_stk (pc := 30) (S' := [.int (x1 + 1)]) fe_193_30 rfl ?_
          refine ay_t_loc (pc := 31) (L' := [some (.ref 40), some (.int (x1 + 1)), some (.int x2)]) fe_193_31 rfl ?_
          refine ay_t_loc (pc := 32) (L' := [some (.ref 40), some (.int (x1 + 1)), some (.int (x2 + 1))]) fe_193_32 rfl ?_
          refine ay_t_br (pc := 35) (pc' := 8) fe_193_35 rfl ?_
          exact ay_t_less (ay_ls (ay_ls (ay_ls ay_l0))) (ih _ _ _ _ _ h)
def fn_193 (D : am_DD) : Option (Int32 × am_DD) := (match fn_191 D with | none => none | some (y1, D2) => fn_193_8 am_F 0 0 D2)
set_option maxHeartbeats 2000000 in
theorem ev_193 {D : am_DD} {y : Int32} {Z : am_DD} (h : fn_193  D = some (y, Z)) : ay_mo 193 [.ref 40] D (.inl (some (.int y))) Z := by
  unfold fn_193 at h
  refine ay_m_of (L := [some (.ref 40), none, none]) rfl ?_
  refine ay_t_loc (pc := 0) fe_193_0 rfl ?_
  cases hk3 : fn_191 D with
  | none => rw [hk3] at h; cases h
  | some z =>
    obtain ⟨y1, D2⟩ := z
    rw [hk3] at h
    dsimp only at h
    refine ay_t_call (pc := 1) (w := none) fe_193_1 (ay_args [.ref 40] [] rfl rfl (Nat.le_of_ble_eq_true rfl) (Nat.le_of_ble_eq_true rfl)) (ay_rcvV at_40 rfl) (ev_191 hk3) ?_
    refine ay_t_stk (pc := 4) (S' := [.int 0]) fe_193_4 rfl ?_
    refine ay_t_loc (pc := 5) (L' := [some (.ref 40), some (.int 0), none]) fe_193_5 rfl ?_
    refine ay_t_stk (pc := 6) (S' := [.int 0]) fe_193_6 rfl ?_
    refine ay_t_loc (pc := 7) (L' := [some (.ref 40), some (.int 0), some (.int 0)]) fe_193_7 rfl ?_
    exact ay_t_less (ay_ls (ay_ls (ay_ls ay_l0))) (ev_193_8 _ _ _ _ _ _ h)
def fn_194 (a1 : Int32) (D : am_DD) : Option (Int32 × am_DD) := some (((((((((a1 - ((a1.toUInt32 >>> (Int32.toUInt32 1 &&& Int32.toUInt32 31)).toInt32 &&& 1431655765)) &&& 858993459) + (((a1 - ((a1.toUInt32 >>> (Int32.toUInt32 1 &&& Int32.toUInt32 31)).toInt32 &&& 1431655765)).toUInt32 >>> (Int32.toUInt32 2 &&& Int32.toUInt32 31)).toInt32 &&& 858993459)) + ((((a1 - ((a1.toUInt32 >>> (Int32.toUInt32 1 &&& Int32.toUInt32 31)).toInt32 &&& 1431655765)) &&& 858993459) + (((a1 - ((a1.toUInt32 >>> (Int32.toUInt32 1 &&& Int32.toUInt32 31)).toInt32 &&& 1431655765)).toUInt32 >>> (Int32.toUInt32 2 &&& Int32.toUInt32 31)).toInt32 &&& 858993459)).toUInt32 >>> (Int32.toUInt32 4 &&& Int32.toUInt32 31)).toInt32) &&& 252645135) + ((((((a1 - ((a1.toUInt32 >>> (Int32.toUInt32 1 &&& Int32.toUInt32 31)).toInt32 &&& 1431655765)) &&& 858993459) + (((a1 - ((a1.toUInt32 >>> (Int32.toUInt32 1 &&& Int32.toUInt32 31)).toInt32 &&& 1431655765)).toUInt32 >>> (Int32.toUInt32 2 &&& Int32.toUInt32 31)).toInt32 &&& 858993459)) + ((((a1 - ((a1.toUInt32 >>> (Int32.toUInt32 1 &&& Int32.toUInt32 31)).toInt32 &&& 1431655765)) &&& 858993459) + (((a1 - ((a1.toUInt32 >>> (Int32.toUInt32 1 &&& Int32.toUInt32 31)).toInt32 &&& 1431655765)).toUInt32 >>> (Int32.toUInt32 2 &&& Int32.toUInt32 31)).toInt32 &&& 858993459)).toUInt32 >>> (Int32.toUInt32 4 &&& Int32.toUInt32 31)).toInt32) &&& 252645135).toUInt32 >>> (Int32.toUInt32 8 &&& Int32.toUInt32 31)).toInt32) + (((((((a1 - ((a1.toUInt32 >>> (Int32.toUInt32 1 &&& Int32.toUInt32 31)).toInt32 &&& 1431655765)) &&& 858993459) + (((a1 - ((a1.toUInt32 >>> (Int32.toUInt32 1 &&& Int32.toUInt32 31)).toInt32 &&& 1431655765)).toUInt32 >>> (Int32.toUInt32 2 &&& Int32.toUInt32 31)).toInt32 &&& 858993459)) + ((((a1 - ((a1.toUInt32 >>> (Int32.toUInt32 1 &&& Int32.toUInt32 31)).toInt32 &&& 1431655765)) &&& 858993459) + (((a1 - ((a1.toUInt32 >>> (Int32.toUInt32 1 &&& Int32.toUInt32 31)).toInt32 &&& 1431655765)).toUInt32 >>> (Int32.toUInt32 2 &&& Int32.toUInt32 31)).toInt32 &&& 858993459)).toUInt32 >>> (Int32.toUInt32 4 &&& Int32.toUInt32 31)).toInt32) &&& 252645135) + ((((((a1 - ((a1.toUInt32 >>> (Int32.toUInt32 1 &&& Int32.toUInt32 31)).toInt32 &&& 1431655765)) &&& 858993459) + (((a1 - ((a1.toUInt32 >>> (Int32.toUInt32 1 &&& Int32.toUInt32 31)).toInt32 &&& 1431655765)).toUInt32 >>> (Int32.toUInt32 2 &&& Int32.toUInt32 31)).toInt32 &&& 858993459)) + ((((a1 - ((a1.toUInt32 >>> (Int32.toUInt32 1 &&& Int32.toUInt32 31)).toInt32 &&& 1431655765)) &&& 858993459) + (((a1 - ((a1.toUInt32 >>> (Int32.toUInt32 1 &&& Int32.toUInt32 31)).toInt32 &&& 1431655765)).toUInt32 >>> (Int32.toUInt32 2 &&& Int32.toUInt32 31)).toInt32 &&& 858993459)).toUInt32 >>> (Int32.toUInt32 4 &&& Int32.toUInt32 31)).toInt32) &&& 252645135).toUInt32 >>> (Int32.toUInt32 8 &&& Int32.toUInt32 31)).toInt32).toUInt32 >>> (Int32.toUInt32 16 &&& Int32.toUInt32 31)).toInt32) &&& 63), D)
set_option maxHeartbeats 2000000 in
theorem ev_194 {a1 : Int32} {D : am_DD} {y : Int32} {Z : am_DD} (h : fn_194 a1 D = some (y, Z)) : ay_mo 194 [.int a1] D (.inl (some (.int y))) Z := by
  unfold fn_194 at h
  refine ay_m_of (L := [some (.int a1)]) rfl ?_
  refine ay_t_loc (pc := 0) fe_194_0 rfl ?_
  refine ay_t_loc (pc := 1) fe_194_1 rfl ?_
  refine ay_t_stk (pc := 2) (S' := [.int 1, .int a1, .int a1]) fe_194_2 rfl ?_
  refine ay_t_stk (pc := 3) (S' := [.int ((a1.toUInt32 >>> (Int32.toUInt32 1 &&& Int32.toUInt32 31)).toInt32), .int a1]) fe_194_3 rfl ?_
  refine ay_t_lib (pc := 4) (S' := [.int 1431655765, .int ((a1.toUInt32 >>> (Int32.toUInt32 1 &&& Int32.toUInt32 31)).toInt32), .int a1]) fe_194_4 rfl ?_
  refine ay_t_stk (pc := 7) (S' := [.int ((a1.toUInt32 >>> (Int32.toUInt32 1 &&& Int32.toUInt32 31)).toInt32 &&& 1431655765), .int a1]) fe_194_7 rfl ?_
  refine ay_t_stk (pc := 8) (S' := [.int (a1 - ((a1.toUInt32 >>> (Int32.toUInt32 1 &&& Int32.toUInt32 31)).toInt32 &&& 1431655765))]) fe_194_8 rfl ?_
  refine ay_t_loc (pc := 9) (L' := [some (.int (a1 - ((a1.toUInt32 >>> (Int32.toUInt32 1 &&& Int32.toUInt32 31)).toInt32 &&& 1431655765)))]) fe_194_9 rfl ?_
  refine ay_t_loc (pc := 10) fe_194_10 rfl ?_
  refine ay_t_lib (pc := 11) (S' := [.int 858993459, .int (a1 - ((a1.toUInt32 >>> (Int32.toUInt32 1 &&& Int32.toUInt32 31)).toInt32 &&& 1431655765))]) fe_194_11 rfl ?_
  refine ay_t_stk (pc := 14) (S' := [.int ((a1 - ((a1.toUInt32 >>> (Int32.toUInt32 1 &&& Int32.toUInt32 31)).toInt32 &&& 1431655765)) &&& 858993459)]) fe_194_14 rfl ?_
  refine ay_t_loc (pc := 15) fe_194_15 rfl ?_
  refine ay_t_stk (pc := 16) (S' := [.int 2, .int (a1 - ((a1.toUInt32 >>> (Int32.toUInt32 1 &&& Int32.toUInt32 31)).toInt32 &&& 1431655765)), .int ((a1 - ((a1.toUInt32 >>> (Int32.toUInt32 1 &&& Int32.toUInt32 31)).toInt32 &&& 1431655765)) &&& 858993459)]) fe_194_16 rfl ?_
  refine ay_t_stk (pc := 17) (S' := [.int (((a1 - ((a1.toUInt32 >>> (Int32.toUInt32 1 &&& Int32.toUInt32 31)).toInt32 &&& 1431655765)).toUInt32 >>> (Int32.toUInt32 2 &&& Int32.toUInt32 31)).toInt32), .int ((a1 - ((a1.toUInt32 >>> (Int32.toUInt32 1 &&& Int32.toUInt32 31)).toInt32 &&& 1431655765)) &&& 858993459)]) fe_194_17 rfl ?_
  refine ay_t_lib (pc := 18) (S' := [.int 858993459, .int (((a1 - ((a1.toUInt32 >>> (Int32.toUInt32 1 &&& Int32.toUInt32 31)).toInt32 &&& 1431655765)).toUInt32 >>> (Int32.toUInt32 2 &&& Int32.toUInt32 31)).toInt32), .int ((a1 - ((a1.toUInt32 >>> (Int32.toUInt32 1 &&& Int32.toUInt32 31)).toInt32 &&& 1431655765)) &&& 858993459)]) fe_194_18 rfl ?_
  refine ay_t_stk (pc := 21) (S' := [.int (((a1 - ((a1.toUInt32 >>> (Int32.toUInt32 1 &&& Int32.toUInt32 31)).toInt32 &&& 1431655765)).toUInt32 >>> (Int32.toUInt32 2 &&& Int32.toUInt32 31)).toInt32 &&& 858993459), .int ((a1 - ((a1.toUInt32 >>> (Int32.toUInt32 1 &&& Int32.toUInt32 31)).toInt32 &&& 1431655765)) &&& 858993459)]) fe_194_21 rfl ?_
  refine ay_t_stk (pc := 22) (S' := [.int (((a1 - ((a1.toUInt32 >>> (Int32.toUInt32 1 &&& Int32.toUInt32 31)).toInt32 &&& 1431655765)) &&& 858993459) + (((a1 - ((a1.toUInt32 >>> (Int32.toUInt32 1 &&& Int32.toUInt32 31)).toInt32 &&& 1431655765)).toUInt32 >>> (Int32.toUInt32 2 &&& Int32.toUInt32 31)).toInt32 &&& 858993459))]) fe_194_22 rfl ?_
  refine ay_t_loc (pc := 23) (L' := [some (.int (((a1 - ((a1.toUInt32 >>> (Int32.toUInt32 1 &&& Int32.toUInt32 31)).toInt32 &&& 1431655765)) &&& 858993459) + (((a1 - ((a1.toUInt32 >>> (Int32.toUInt32 1 &&& Int32.toUInt32 31)).toInt32 &&& 1431655765)).toUInt32 >>> (Int32.toUInt32 2 &&& Int32.toUInt32 31)).toInt32 &&& 858993459)))]) fe_194_23 rfl ?_
  refine ay_t_loc (pc := 24) fe_194_24 rfl ?_
  refine ay_t_loc (pc := 25) fe_194_25 rfl ?_
  refine ay_t_stk (pc := 26) (S' := [.int 4, .int (((a1 - ((a1.toUInt32 >>> (Int32.toUInt32 1 &&& Int32.toUInt32 31)).toInt32 &&& 1431655765)) &&& 858993459) + (((a1 - ((a1.toUInt32 >>> (Int32.toUInt32 1 &&& Int32.toUInt32 31)).toInt32 &&& 1431655765)).toUInt32 >>> (Int32.toUInt32 2 &&& Int32.toUInt32 31)).toInt32 &&& 858993459)), .int (((a1 - ((a1.toUInt32 >>> (Int32.toUInt32 1 &&& Int32.toUInt32 31)).toInt32 &&& 1431655765)) &&& 858993459) + (((a1 - ((a1.toUInt32 >>> (Int32.toUInt32 1 &&& Int32.toUInt32 31)).toInt32 &&& 1431655765)).toUInt32 >>> (Int32.toUInt32 2 &&& Int32.toUInt32 31)).toInt32 &&& 858993459))]) fe_194_26 rfl ?_
  refine ay_t_stk (pc := 27) (S' := [.int (((((a1 - ((a1.toUInt32 >>> (Int32.toUInt32 1 &&& Int32.toUInt32 31)).toInt32 &&& 1431655765)) &&& 858993459) + (((a1 - ((a1.toUInt32 >>> (Int32.toUInt32 1 &&& Int32.toUInt32 31)).toInt32 &&& 1431655765)).toUInt32 >>> (Int32.toUInt32 2 &&& Int32.toUInt32 31)).toInt32 &&& 858993459)).toUInt32 >>> (Int32.toUInt32 4 &&& Int32.toUInt32 31)).toInt32), .int (((a1 - ((a1.toUInt32 >>> (Int32.toUInt32 1 &&& Int32.toUInt32 31)).toInt32 &&& 1431655765)) &&& 858993459) + (((a1 - ((a1.toUInt32 >>> (Int32.toUInt32 1 &&& Int32.toUInt32 31)).toInt32 &&& 1431655765)).toUInt32 >>> (Int32.toUInt32 2 &&& Int32.toUInt32 31)).toInt32 &&& 858993459))]) fe_194_27 rfl ?_
  refine ay_t_stk (pc := 28) (S' := [.int ((((a1 - ((a1.toUInt32 >>> (Int32.toUInt32 1 &&& Int32.toUInt32 31)).toInt32 &&& 1431655765)) &&& 858993459) + (((a1 - ((a1.toUInt32 >>> (Int32.toUInt32 1 &&& Int32.toUInt32 31)).toInt32 &&& 1431655765)).toUInt32 >>> (Int32.toUInt32 2 &&& Int32.toUInt32 31)).toInt32 &&& 858993459)) + ((((a1 - ((a1.toUInt32 >>> (Int32.toUInt32 1 &&& Int32.toUInt32 31)).toInt32 &&& 1431655765)) &&& 858993459) + (((a1 - ((a1.toUInt32 >>> (Int32.toUInt32 1 &&& Int32.toUInt32 31)).toInt32 &&& 1431655765)).toUInt32 >>> (Int32.toUInt32 2 &&& Int32.toUInt32 31)).toInt32 &&& 858993459)).toUInt32 >>> (Int32.toUInt32 4 &&& Int32.toUInt32 31)).toInt32)]) fe_194_28 rfl ?_
  refine ay_t_lib (pc := 29) (S' := [.int 252645135, .int ((((a1 - ((a1.toUInt32 >>> (Int32.toUInt32 1 &&& Int32.toUInt32 31)).toInt32 &&& 1431655765)) &&& 858993459) + (((a1 - ((a1.toUInt32 >>> (Int32.toUInt32 1 &&& Int32.toUInt32 31)).toInt32 &&& 1431655765)).toUInt32 >>> (Int32.toUInt32 2 &&& Int32.toUInt32 31)).toInt32 &&& 858993459)) + ((((a1 - ((a1.toUInt32 >>> (Int32.toUInt32 1 &&& Int32.toUInt32 31)).toInt32 &&& 1431655765)) &&& 858993459) + (((a1 - ((a1.toUInt32 >>> (Int32.toUInt32 1 &&& Int32.toUInt32 31)).toInt32 &&& 1431655765)).toUInt32 >>> (Int32.toUInt32 2 &&& Int32.toUInt32 31)).toInt32 &&& 858993459)).toUInt32 >>> (Int32.toUInt32 4 &&& Int32.toUInt32 31)).toInt32)]) fe_194_29 rfl ?_
  refine ay_t_stk (pc := 32) (S' := [.int (((((a1 - ((a1.toUInt32 >>> (Int32.toUInt32 1 &&& Int32.toUInt32 31)).toInt32 &&& 1431655765)) &&& 858993459) + (((a1 - ((a1.toUInt32 >>> (Int32.toUInt32 1 &&& Int32.toUInt32 31)).toInt32 &&& 1431655765)).toUInt32 >>> (Int32.toUInt32 2 &&& Int32.toUInt32 31)).toInt32 &&& 858993459)) + ((((a1 - ((a1.toUInt32 >>> (Int32.toUInt32 1 &&& Int32.toUInt32 31)).toInt32 &&& 1431655765)) &&& 858993459) + (((a1 - ((a1.toUInt32 >>> (Int32.toUInt32 1 &&& Int32.toUInt32 31)).toInt32 &&& 1431655765)).toUInt32 >>> (Int32.toUInt32 2 &&& Int32.toUInt32 31)).toInt32 &&& 858993459)).toUInt32 >>> (Int32.toUInt32 4 &&& Int32.toUInt32 31)).toInt32) &&& 252645135)]) fe_194_32 rfl ?_
  refine ay_t_loc (pc := 33) (L' := [some (.int (((((a1 - ((a1.toUInt32 >>> (Int32.toUInt32 1 &&& Int32.toUInt32 31)).toInt32 &&& 1431655765)) &&& 858993459) + (((a1 - ((a1.toUInt32 >>> (Int32.toUInt32 1 &&& Int32.toUInt32 31)).toInt32 &&& 1431655765)).toUInt32 >>> (Int32.toUInt32 2 &&& Int32.toUInt32 31)).toInt32 &&& 858993459)) + ((((a1 - ((a1.toUInt32 >>> (Int32.toUInt32 1 &&& Int32.toUInt32 31)).toInt32 &&& 1431655765)) &&& 858993459) + (((a1 - ((a1.toUInt32 >>> (Int32.toUInt32 1 &&& Int32.toUInt32 31)).toInt32 &&& 1431655765)).toUInt32 >>> (Int32.toUInt32 2 &&& Int32.toUInt32 31)).toInt32 &&& 858993459)).toUInt32 >>> (Int32.toUInt32 4 &&& Int32.toUInt32 31)).toInt32) &&& 252645135))]) fe_194_33 rfl ?_
  refine ay_t_loc (pc := 34) fe_194_34 rfl ?_
  refine ay_t_loc (pc := 35) fe_194_35 rfl ?_
  refine ay_t_stk (pc := 36) (S' := [.int 8, .int (((((a1 - ((a1.toUInt32 >>> (Int32.toUInt32 1 &&& Int32.toUInt32 31)).toInt32 &&& 1431655765)) &&& 858993459) + (((a1 - ((a1.toUInt32 >>> (Int32.toUInt32 1 &&& Int32.toUInt32 31)).toInt32 &&& 1431655765)).toUInt32 >>> (Int32.toUInt32 2 &&& Int32.toUInt32 31)).toInt32 &&& 858993459)) + ((((a1 - ((a1.toUInt32 >>> (Int32.toUInt32 1 &&& Int32.toUInt32 31)).toInt32 &&& 1431655765)) &&& 858993459) + (((a1 - ((a1.toUInt32 >>> (Int32.toUInt32 1 &&& Int32.toUInt32 31)).toInt32 &&& 1431655765)).toUInt32 >>> (Int32.toUInt32 2 &&& Int32.toUInt32 31)).toInt32 &&& 858993459)).toUInt32 >>> (Int32.toUInt32 4 &&& Int32.toUInt32 31)).toInt32) &&& 252645135), .int (((((a1 - ((a1.toUInt32 >>> (Int32.toUInt32 1 &&& Int32.toUInt32 31)).toInt32 &&& 1431655765)) &&& 858993459) + (((a1 - ((a1.toUInt32 >>> (Int32.toUInt32 1 &&& Int32.toUInt32 31)).toInt32 &&& 1431655765)).toUInt32 >>> (Int32.toUInt32 2 &&& Int32.toUInt32 31)).toInt32 &&& 858993459)) + ((((a1 - ((a1.toUInt32 >>> (Int32.toUInt32 1 &&& Int32.toUInt32 31)).toInt32 &&& 1431655765)) &&& 858993459) + (((a1 - ((a1.toUInt32 >>> (Int32.toUInt32 1 &&& Int32.toUInt32 31)).toInt32 &&& 1431655765)).toUInt32 >>> (Int32.toUInt32 2 &&& Int32.toUInt32 31)).toInt32 &&& 858993459)).toUInt32 >>> (Int32.toUInt32 4 &&& Int32.toUInt32 31)).toInt32) &&& 252645135)]) fe_194_36 rfl ?_
  refine ay_t_stk (pc := 38) (S' := [.int (((((((a1 - ((a1.toUInt32 >>> (Int32.toUInt32 1 &&& Int32.toUInt32 31)).toInt32 &&& 1431655765)) &&& 858993459) + (((a1 - ((a1.toUInt32 >>> (Int32.toUInt32 1 &&& Int32.toUInt32 31)).toInt32 &&& 1431655765)).toUInt32 >>> (Int32.toUInt32 2 &&& Int32.toUInt32 31)).toInt32 &&& 858993459)) + ((((a1 - ((a1.toUInt32 >>> (Int32.toUInt32 1 &&& Int32.toUInt32 31)).toInt32 &&& 1431655765)) &&& 858993459) + (((a1 - ((a1.toUInt32 >>> (Int32.toUInt32 1 &&& Int32.toUInt32 31)).toInt32 &&& 1431655765)).toUInt32 >>> (Int32.toUInt32 2 &&& Int32.toUInt32 31)).toInt32 &&& 858993459)).toUInt32 >>> (Int32.toUInt32 4 &&& Int32.toUInt32 31)).toInt32) &&& 252645135).toUInt32 >>> (Int32.toUInt32 8 &&& Int32.toUInt32 31)).toInt32), .int (((((a1 - ((a1.toUInt32 >>> (Int32.toUInt32 1 &&& Int32.toUInt32 31)).toInt32 &&& 1431655765)) &&& 858993459) + (((a1 - ((a1.toUInt32 >>> (Int32.toUInt32 1 &&& Int32.toUInt32 31)).toInt32 &&& 1431655765)).toUInt32 >>> (Int32.toUInt32 2 &&& Int32.toUInt32 31)).toInt32 &&& 858993459)) + ((((a1 - ((a1.toUInt32 >>> (Int32.toUInt32 1 &&& Int32.toUInt32 31)).toInt32 &&& 1431655765)) &&& 858993459) + (((a1 - ((a1.toUInt32 >>> (Int32.toUInt32 1 &&& Int32.toUInt32 31)).toInt32 &&& 1431655765)).toUInt32 >>> (Int32.toUInt32 2 &&& Int32.toUInt32 31)).toInt32 &&& 858993459)).toUInt32 >>> (Int32.toUInt32 4 &&& Int32.toUInt32 31)).toInt32) &&& 252645135)]) fe_194_38 rfl ?_
  refine ay_t_stk (pc := 39) (S' := [.int ((((((a1 - ((a1.toUInt32 >>> (Int32.toUInt32 1 &&& Int32.toUInt32 31)).toInt32 &&& 1431655765)) &&& 858993459) + (((a1 - ((a1.toUInt32 >>> (Int32.toUInt32 1 &&& Int32.toUInt32 31)).toInt32 &&& 1431655765)).toUInt32 >>> (Int32.toUInt32 2 &&& Int32.toUInt32 31)).toInt32 &&& 858993459)) + ((((a1 - ((a1.toUInt32 >>> (Int32.toUInt32 1 &&& Int32.toUInt32 31)).toInt32 &&& 1431655765)) &&& 858993459) + (((a1 - ((a1.toUInt32 >>> (Int32.toUInt32 1 &&& Int32.toUInt32 31)).toInt32 &&& 1431655765)).toUInt32 >>> (Int32.toUInt32 2 &&& Int32.toUInt32 31)).toInt32 &&& 858993459)).toUInt32 >>> (Int32.toUInt32 4 &&& Int32.toUInt32 31)).toInt32) &&& 252645135) + ((((((a1 - ((a1.toUInt32 >>> (Int32.toUInt32 1 &&& Int32.toUInt32 31)).toInt32 &&& 1431655765)) &&& 858993459) + (((a1 - ((a1.toUInt32 >>> (Int32.toUInt32 1 &&& Int32.toUInt32 31)).toInt32 &&& 1431655765)).toUInt32 >>> (Int32.toUInt32 2 &&& Int32.toUInt32 31)).toInt32 &&& 858993459)) + ((((a1 - ((a1.toUInt32 >>> (Int32.toUInt32 1 &&& Int32.toUInt32 31)).toInt32 &&& 1431655765)) &&& 858993459) + (((a1 - ((a1.toUInt32 >>> (Int32.toUInt32 1 &&& Int32.toUInt32 31)).toInt32 &&& 1431655765)).toUInt32 >>> (Int32.toUInt32 2 &&& Int32.toUInt32 31)).toInt32 &&& 858993459)).toUInt32 >>> (Int32.toUInt32 4 &&& Int32.toUInt32 31)).toInt32) &&& 252645135).toUInt32 >>> (Int32.toUInt32 8 &&& Int32.toUInt32 31)).toInt32)]) fe_194_39 rfl ?_
  refine ay_t_loc (pc := 40) (L' := [some (.int ((((((a1 - ((a1.toUInt32 >>> (Int32.toUInt32 1 &&& Int32.toUInt32 31)).toInt32 &&& 1431655765)) &&& 858993459) + (((a1 - ((a1.toUInt32 >>> (Int32.toUInt32 1 &&& Int32.toUInt32 31)).toInt32 &&& 1431655765)).toUInt32 >>> (Int32.toUInt32 2 &&& Int32.toUInt32 31)).toInt32 &&& 858993459)) + ((((a1 - ((a1.toUInt32 >>> (Int32.toUInt32 1 &&& Int32.toUInt32 31)).toInt32 &&& 1431655765)) &&& 858993459) + (((a1 - ((a1.toUInt32 >>> (Int32.toUInt32 1 &&& Int32.toUInt32 31)).toInt32 &&& 1431655765)).toUInt32 >>> (Int32.toUInt32 2 &&& Int32.toUInt32 31)).toInt32 &&& 858993459)).toUInt32 >>> (Int32.toUInt32 4 &&& Int32.toUInt32 31)).toInt32) &&& 252645135) + ((((((a1 - ((a1.toUInt32 >>> (Int32.toUInt32 1 &&& Int32.toUInt32 31)).toInt32 &&& 1431655765)) &&& 858993459) + (((a1 - ((a1.toUInt32 >>> (Int32.toUInt32 1 &&& Int32.toUInt32 31)).toInt32 &&& 1431655765)).toUInt32 >>> (Int32.toUInt32 2 &&& Int32.toUInt32 31)).toInt32 &&& 858993459)) + ((((a1 - ((a1.toUInt32 >>> (Int32.toUInt32 1 &&& Int32.toUInt32 31)).toInt32 &&& 1431655765)) &&& 858993459) + (((a1 - ((a1.toUInt32 >>> (Int32.toUInt32 1 &&& Int32.toUInt32 31)).toInt32 &&& 1431655765)).toUInt32 >>> (Int32.toUInt32 2 &&& Int32.toUInt32 31)).toInt32 &&& 858993459)).toUInt32 >>> (Int32.toUInt32 4 &&& Int32.toUInt32 31)).toInt32) &&& 252645135).toUInt32 >>> (Int32.toUInt32 8 &&& Int32.toUInt32 31)).toInt32))]) fe_194_40 rfl ?_
  refine ay_t_loc (pc := 41) fe_194_41 rfl ?_
  refine ay_t_loc (pc := 42) fe_194_42 rfl ?_
  refine ay_t_stk (pc := 43) (S' := [.int 16, .int ((((((a1 - ((a1.toUInt32 >>> (Int32.toUInt32 1 &&& Int32.toUInt32 31)).toInt32 &&& 1431655765)) &&& 858993459) + (((a1 - ((a1.toUInt32 >>> (Int32.toUInt32 1 &&& Int32.toUInt32 31)).toInt32 &&& 1431655765)).toUInt32 >>> (Int32.toUInt32 2 &&& Int32.toUInt32 31)).toInt32 &&& 858993459)) + ((((a1 - ((a1.toUInt32 >>> (Int32.toUInt32 1 &&& Int32.toUInt32 31)).toInt32 &&& 1431655765)) &&& 858993459) + (((a1 - ((a1.toUInt32 >>> (Int32.toUInt32 1 &&& Int32.toUInt32 31)).toInt32 &&& 1431655765)).toUInt32 >>> (Int32.toUInt32 2 &&& Int32.toUInt32 31)).toInt32 &&& 858993459)).toUInt32 >>> (Int32.toUInt32 4 &&& Int32.toUInt32 31)).toInt32) &&& 252645135) + ((((((a1 - ((a1.toUInt32 >>> (Int32.toUInt32 1 &&& Int32.toUInt32 31)).toInt32 &&& 1431655765)) &&& 858993459) + (((a1 - ((a1.toUInt32 >>> (Int32.toUInt32 1 &&& Int32.toUInt32 31)).toInt32 &&& 1431655765)).toUInt32 >>> (Int32.toUInt32 2 &&& Int32.toUInt32 31)).toInt32 &&& 858993459)) + ((((a1 - ((a1.toUInt32 >>> (Int32.toUInt32 1 &&& Int32.toUInt32 31)).toInt32 &&& 1431655765)) &&& 858993459) + (((a1 - ((a1.toUInt32 >>> (Int32.toUInt32 1 &&& Int32.toUInt32 31)).toInt32 &&& 1431655765)).toUInt32 >>> (Int32.toUInt32 2 &&& Int32.toUInt32 31)).toInt32 &&& 858993459)).toUInt32 >>> (Int32.toUInt32 4 &&& Int32.toUInt32 31)).toInt32) &&& 252645135).toUInt32 >>> (Int32.toUInt32 8 &&& Int32.toUInt32 31)).toInt32), .int ((((((a1 - ((a1.toUInt32 >>> (Int32.toUInt32 1 &&& Int32.toUInt32 31)).toInt32 &&& 1431655765)) &&& 858993459) + (((a1 - ((a1.toUInt32 >>> (Int32.toUInt32 1 &&& Int32.toUInt32 31)).toInt32 &&& 1431655765)).toUInt32 >>> (Int32.toUInt32 2 &&& Int32.toUInt32 31)).toInt32 &&& 858993459)) + ((((a1 - ((a1.toUInt32 >>> (Int32.toUInt32 1 &&& Int32.toUInt32 31)).toInt32 &&& 1431655765)) &&& 858993459) + (((a1 - ((a1.toUInt32 >>> (Int32.toUInt32 1 &&& Int32.toUInt32 31)).toInt32 &&& 1431655765)).toUInt32 >>> (Int32.toUInt32 2 &&& Int32.toUInt32 31)).toInt32 &&& 858993459)).toUInt32 >>> (Int32.toUInt32 4 &&& Int32.toUInt32 31)).toInt32) &&& 252645135) + ((((((a1 - ((a1.toUInt32 >>> (Int32.toUInt32 1 &&& Int32.toUInt32 31)).toInt32 &&& 1431655765)) &&& 858993459) + (((a1 - ((a1.toUInt32 >>> (Int32.toUInt32 1 &&& Int32.toUInt32 31)).toInt32 &&& 1431655765)).toUInt32 >>> (Int32.toUInt32 2 &&& Int32.toUInt32 31)).toInt32 &&& 858993459)) + ((((a1 - ((a1.toUInt32 >>> (Int32.toUInt32 1 &&& Int32.toUInt32 31)).toInt32 &&& 1431655765)) &&& 858993459) + (((a1 - ((a1.toUInt32 >>> (Int32.toUInt32 1 &&& Int32.toUInt32 31)).toInt32 &&& 1431655765)).toUInt32 >>> (Int32.toUInt32 2 &&& Int32.toUInt32 31)).toInt32 &&& 858993459)).toUInt32 >>> (Int32.toUInt32 4 &&& Int32.toUInt32 31)).toInt32) &&& 252645135).toUInt32 >>> (Int32.toUInt32 8 &&& Int32.toUInt32 31)).toInt32)]) fe_194_43 rfl ?_
  refine ay_t_stk (pc := 45) (S' := [.int ((((((((a1 - ((a1.toUInt32 >>> (Int32.toUInt32 1 &&& Int32.toUInt32 31)).toInt32 &&& 1431655765)) &&& 858993459) + (((a1 - ((a1.toUInt32 >>> (Int32.toUInt32 1 &&& Int32.toUInt32 31)).toInt32 &&& 1431655765)).toUInt32 >>> (Int32.toUInt32 2 &&& Int32.toUInt32 31)).toInt32 &&& 858993459)) + ((((a1 - ((a1.toUInt32 >>> (Int32.toUInt32 1 &&& Int32.toUInt32 31)).toInt32 &&& 1431655765)) &&& 858993459) + (((a1 - ((a1.toUInt32 >>> (Int32.toUInt32 1 &&& Int32.toUInt32 31)).toInt32 &&& 1431655765)).toUInt32 >>> (Int32.toUInt32 2 &&& Int32.toUInt32 31)).toInt32 &&& 858993459)).toUInt32 >>> (Int32.toUInt32 4 &&& Int32.toUInt32 31)).toInt32) &&& 252645135) + ((((((a1 - ((a1.toUInt32 >>> (Int32.toUInt32 1 &&& Int32.toUInt32 31)).toInt32 &&& 1431655765)) &&& 858993459) + (((a1 - ((a1.toUInt32 >>> (Int32.toUInt32 1 &&& Int32.toUInt32 31)).toInt32 &&& 1431655765)).toUInt32 >>> (Int32.toUInt32 2 &&& Int32.toUInt32 31)).toInt32 &&& 858993459)) + ((((a1 - ((a1.toUInt32 >>> (Int32.toUInt32 1 &&& Int32.toUInt32 31)).toInt32 &&& 1431655765)) &&& 858993459) + (((a1 - ((a1.toUInt32 >>> (Int32.toUInt32 1 &&& Int32.toUInt32 31)).toInt32 &&& 1431655765)).toUInt32 >>> (Int32.toUInt32 2 &&& Int32.toUInt32 31)).toInt32 &&& 858993459)).toUInt32 >>> (Int32.toUInt32 4 &&& Int32.toUInt32 31)).toInt32) &&& 252645135).toUInt32 >>> (Int32.toUInt32 8 &&& Int32.toUInt32 31)).toInt32).toUInt32 >>> (Int32.toUInt32 16 &&& Int32.toUInt32 31)).toInt32), .int ((((((a1 - ((a1.toUInt32 >>> (Int32.toUInt32 1 &&& Int32.toUInt32 31)).toInt32 &&& 1431655765)) &&& 858993459) + (((a1 - ((a1.toUInt32 >>> (Int32.toUInt32 1 &&& Int32.toUInt32 31)).toInt32 &&& 1431655765)).toUInt32 >>> (Int32.toUInt32 2 &&& Int32.toUInt32 31)).toInt32 &&& 858993459)) + ((((a1 - ((a1.toUInt32 >>> (Int32.toUInt32 1 &&& Int32.toUInt32 31)).toInt32 &&& 1431655765)) &&& 858993459) + (((a1 - ((a1.toUInt32 >>> (Int32.toUInt32 1 &&& Int32.toUInt32 31)).toInt32 &&& 1431655765)).toUInt32 >>> (Int32.toUInt32 2 &&& Int32.toUInt32 31)).toInt32 &&& 858993459)).toUInt32 >>> (Int32.toUInt32 4 &&& Int32.toUInt32 31)).toInt32) &&& 252645135) + ((((((a1 - ((a1.toUInt32 >>> (Int32.toUInt32 1 &&& Int32.toUInt32 31)).toInt32 &&& 1431655765)) &&& 858993459) + (((a1 - ((a1.toUInt32 >>> (Int32.toUInt32 1 &&& Int32.toUInt32 31)).toInt32 &&& 1431655765)).toUInt32 >>> (Int32.toUInt32 2 &&& Int32.toUInt32 31)).toInt32 &&& 858993459)) + ((((a1 - ((a1.toUInt32 >>> (Int32.toUInt32 1 &&& Int32.toUInt32 31)).toInt32 &&& 1431655765)) &&& 858993459) + (((a1 - ((a1.toUInt32 >>> (Int32.toUInt32 1 &&& Int32.toUInt32 31)).toInt32 &&& 1431655765)).toUInt32 >>> (Int32.toUInt32 2 &&& Int32.toUInt32 31)).toInt32 &&& 858993459)).toUInt32 >>> (Int32.toUInt32 4 &&& Int32.toUInt32 31)).toInt32) &&& 252645135).toUInt32 >>> (Int32.toUInt32 8 &&& Int32.toUInt32 31)).toInt32)]) fe_194_45 rfl ?_
  refine ay_t_stk (pc := 46) (S' := [.int (((((((a1 - ((a1.toUInt32 >>> (Int32.toUInt32 1 &&& Int32.toUInt32 31)).toInt32 &&& 1431655765)) &&& 858993459) + (((a1 - ((a1.toUInt32 >>> (Int32.toUInt32 1 &&& Int32.toUInt32 31)).toInt32 &&& 1431655765)).toUInt32 >>> (Int32.toUInt32 2 &&& Int32.toUInt32 31)).toInt32 &&& 858993459)) + ((((a1 - ((a1.toUInt32 >>> (Int32.toUInt32 1 &&& Int32.toUInt32 31)).toInt32 &&& 1431655765)) &&& 858993459) + (((a1 - ((a1.toUInt32 >>> (Int32.toUInt32 1 &&& Int32.toUInt32 31)).toInt32 &&& 1431655765)).toUInt32 >>> (Int32.toUInt32 2 &&& Int32.toUInt32 31)).toInt32 &&& 858993459)).toUInt32 >>> (Int32.toUInt32 4 &&& Int32.toUInt32 31)).toInt32) &&& 252645135) + ((((((a1 - ((a1.toUInt32 >>> (Int32.toUInt32 1 &&& Int32.toUInt32 31)).toInt32 &&& 1431655765)) &&& 858993459) + (((a1 - ((a1.toUInt32 >>> (Int32.toUInt32 1 &&& Int32.toUInt32 31)).toInt32 &&& 1431655765)).toUInt32 >>> (Int32.toUInt32 2 &&& Int32.toUInt32 31)).toInt32 &&& 858993459)) + ((((a1 - ((a1.toUInt32 >>> (Int32.toUInt32 1 &&& Int32.toUInt32 31)).toInt32 &&& 1431655765)) &&& 858993459) + (((a1 - ((a1.toUInt32 >>> (Int32.toUInt32 1 &&& Int32.toUInt32 31)).toInt32 &&& 1431655765)).toUInt32 >>> (Int32.toUInt32 2 &&& Int32.toUInt32 31)).toInt32 &&& 858993459)).toUInt32 >>> (Int32.toUInt32 4 &&& Int32.toUInt32 31)).toInt32) &&& 252645135).toUInt32 >>> (Int32.toUInt32 8 &&& Int32.toUInt32 31)).toInt32) + (((((((a1 - ((a1.toUInt32 >>> (Int32.toUInt32 1 &&& Int32.toUInt32 31)).toInt32 &&& 1431655765)) &&& 858993459) + (((a1 - ((a1.toUInt32 >>> (Int32.toUInt32 1 &&& Int32.toUInt32 31)).toInt32 &&& 1431655765)).toUInt32 >>> (Int32.toUInt32 2 &&& Int32.toUInt32 31)).toInt32 &&& 858993459)) + ((((a1 - ((a1.toUInt32 >>> (Int32.toUInt32 1 &&& Int32.toUInt32 31)).toInt32 &&& 1431655765)) &&& 858993459) + (((a1 - ((a1.toUInt32 >>> (Int32.toUInt32 1 &&& Int32.toUInt32 31)).toInt32 &&& 1431655765)).toUInt32 >>> (Int32.toUInt32 2 &&& Int32.toUInt32 31)).toInt32 &&& 858993459)).toUInt32 >>> (Int32.toUInt32 4 &&& Int32.toUInt32 31)).toInt32) &&& 252645135) + ((((((a1 - ((a1.toUInt32 >>> (Int32.toUInt32 1 &&& Int32.toUInt32 31)).toInt32 &&& 1431655765)) &&& 858993459) + (((a1 - ((a1.toUInt32 >>> (Int32.toUInt32 1 &&& Int32.toUInt32 31)).toInt32 &&& 1431655765)).toUInt32 >>> (Int32.toUInt32 2 &&& Int32.toUInt32 31)).toInt32 &&& 858993459)) + ((((a1 - ((a1.toUInt32 >>> (Int32.toUInt32 1 &&& Int32.toUInt32 31)).toInt32 &&& 1431655765)) &&& 858993459) + (((a1 - ((a1.toUInt32 >>> (Int32.toUInt32 1 &&& Int32.toUInt32 31)).toInt32 &&& 1431655765)).toUInt32 >>> (Int32.toUInt32 2 &&& Int32.toUInt32 31)).toInt32 &&& 858993459)).toUInt32 >>> (Int32.toUInt32 4 &&& Int32.toUInt32 31)).toInt32) &&& 252645135).toUInt32 >>> (Int32.toUInt32 8 &&& Int32.toUInt32 31)).toInt32).toUInt32 >>> (Int32.toUInt32 16 &&& Int32.toUInt32 31)).toInt32)]) fe_194_46 rfl ?_
  refine ay_t_loc (pc := 47) (L' := [some (.int (((((((a1 - ((a1.toUInt32 >>> (Int32.toUInt32 1 &&& Int32.toUInt32 31)).toInt32 &&& 1431655765)) &&& 858993459) + (((a1 - ((a1.toUInt32 >>> (Int32.toUInt32 1 &&& Int32.toUInt32 31)).toInt32 &&& 1431655765)).toUInt32 >>> (Int32.toUInt32 2 &&& Int32.toUInt32 31)).toInt32 &&& 858993459)) + ((((a1 - ((a1.toUInt32 >>> (Int32.toUInt32 1 &&& Int32.toUInt32 31)).toInt32 &&& 1431655765)) &&& 858993459) + (((a1 - ((a1.toUInt32 >>> (Int32.toUInt32 1 &&& Int32.toUInt32 31)).toInt32 &&& 1431655765)).toUInt32 >>> (Int32.toUInt32 2 &&& Int32.toUInt32 31)).toInt32 &&& 858993459)).toUInt32 >>> (Int32.toUInt32 4 &&& Int32.toUInt32 31)).toInt32) &&& 252645135) + ((((((a1 - ((a1.toUInt32 >>> (Int32.toUInt32 1 &&& Int32.toUInt32 31)).toInt32 &&& 1431655765)) &&& 858993459) + (((a1 - ((a1.toUInt32 >>> (Int32.toUInt32 1 &&& Int32.toUInt32 31)).toInt32 &&& 1431655765)).toUInt32 >>> (Int32.toUInt32 2 &&& Int32.toUInt32 31)).toInt32 &&& 858993459)) + ((((a1 - ((a1.toUInt32 >>> (Int32.toUInt32 1 &&& Int32.toUInt32 31)).toInt32 &&& 1431655765)) &&& 858993459) + (((a1 - ((a1.toUInt32 >>> (Int32.toUInt32 1 &&& Int32.toUInt32 31)).toInt32 &&& 1431655765)).toUInt32 >>> (Int32.toUInt32 2 &&& Int32.toUInt32 31)).toInt32 &&& 858993459)).toUInt32 >>> (Int32.toUInt32 4 &&& Int32.toUInt32 31)).toInt32) &&& 252645135).toUInt32 >>> (Int32.toUInt32 8 &&& Int32.toUInt32 31)).toInt32) + (((((((a1 - ((a1.toUInt32 >>> (Int32.toUInt32 1 &&& Int32.toUInt32 31)).toInt32 &&& 1431655765)) &&& 858993459) + (((a1 - ((a1.toUInt32 >>> (Int32.toUInt32 1 &&& Int32.toUInt32 31)).toInt32 &&& 1431655765)).toUInt32 >>> (Int32.toUInt32 2 &&& Int32.toUInt32 31)).toInt32 &&& 858993459)) + ((((a1 - ((a1.toUInt32 >>> (Int32.toUInt32 1 &&& Int32.toUInt32 31)).toInt32 &&& 1431655765)) &&& 858993459) + (((a1 - ((a1.toUInt32 >>> (Int32.toUInt32 1 &&& Int32.toUInt32 31)).toInt32 &&& 1431655765)).toUInt32 >>> (Int32.toUInt32 2 &&& Int32.toUInt32 31)).toInt32 &&& 858993459)).toUInt32 >>> (Int32.toUInt32 4 &&& Int32.toUInt32 31)).toInt32) &&& 252645135) + ((((((a1 - ((a1.toUInt32 >>> (Int32.toUInt32 1 &&& Int32.toUInt32 31)).toInt32 &&& 1431655765)) &&& 858993459) + (((a1 - ((a1.toUInt32 >>> (Int32.toUInt32 1 &&& Int32.toUInt32 31)).toInt32 &&& 1431655765)).toUInt32 >>> (Int32.toUInt32 2 &&& Int32.toUInt32 31)).toInt32 &&& 858993459)) + ((((a1 - ((a1.toUInt32 >>> (Int32.toUInt32 1 &&& Int32.toUInt32 31)).toInt32 &&& 1431655765)) &&& 858993459) + (((a1 - ((a1.toUInt32 >>> (Int32.toUInt32 1 &&& Int32.toUInt32 31)).toInt32 &&& 1431655765)).toUInt32 >>> (Int32.toUInt32 2 &&& Int32.toUInt32 31)).toInt32 &&& 858993459)).toUInt32 >>> (Int32.toUInt32 4 &&& Int32.toUInt32 31)).toInt32) &&& 252645135).toUInt32 >>> (Int32.toUInt32 8 &&& Int32.toUInt32 31)).toInt32).toUInt32 >>> (Int32.toUInt32 16 &&& Int32.toUInt32 31)).toInt32))]) fe_194_47 rfl ?_
  refine ay_t_loc (pc := 48) fe_194_48 rfl ?_
  refine ay_t_stk (pc := 49) (S' := [.int 63, .int (((((((a1 - ((a1.toUInt32 >>> (Int32.toUInt32 1 &&& Int32.toUInt32 31)).toInt32 &&& 1431655765)) &&& 858993459) + (((a1 - ((a1.toUInt32 >>> (Int32.toUInt32 1 &&& Int32.toUInt32 31)).toInt32 &&& 1431655765)).toUInt32 >>> (Int32.toUInt32 2 &&& Int32.toUInt32 31)).toInt32 &&& 858993459)) + ((((a1 - ((a1.toUInt32 >>> (Int32.toUInt32 1 &&& Int32.toUInt32 31)).toInt32 &&& 1431655765)) &&& 858993459) + (((a1 - ((a1.toUInt32 >>> (Int32.toUInt32 1 &&& Int32.toUInt32 31)).toInt32 &&& 1431655765)).toUInt32 >>> (Int32.toUInt32 2 &&& Int32.toUInt32 31)).toInt32 &&& 858993459)).toUInt32 >>> (Int32.toUInt32 4 &&& Int32.toUInt32 31)).toInt32) &&& 252645135) + ((((((a1 - ((a1.toUInt32 >>> (Int32.toUInt32 1 &&& Int32.toUInt32 31)).toInt32 &&& 1431655765)) &&& 858993459) + (((a1 - ((a1.toUInt32 >>> (Int32.toUInt32 1 &&& Int32.toUInt32 31)).toInt32 &&& 1431655765)).toUInt32 >>> (Int32.toUInt32 2 &&& Int32.toUInt32 31)).toInt32 &&& 858993459)) + ((((a1 - ((a1.toUInt32 >>> (Int32.toUInt32 1 &&& Int32.toUInt32 31)).toInt32 &&& 1431655765)) &&& 858993459) + (((a1 - ((a1.toUInt32 >>> (Int32.toUInt32 1 &&& Int32.toUInt32 31)).toInt32 &&& 1431655765)).toUInt32 >>> (Int32.toUInt32 2 &&& Int32.toUInt32 31)).toInt32 &&& 858993459)).toUInt32 >>> (Int32.toUInt32 4 &&& Int32.toUInt32 31)).toInt32) &&& 252645135).toUInt32 >>> (Int32.toUInt32 8 &&& Int32.toUInt32 31)).toInt32) + (((((((a1 - ((a1.toUInt32 >>> (Int32.toUInt32 1 &&& Int32.toUInt32 31)).toInt32 &&& 1431655765)) &&& 858993459) + (((a1 - ((a1.toUInt32 >>> (Int32.toUInt32 1 &&& Int32.toUInt32 31)).toInt32 &&& 1431655765)).toUInt32 >>> (Int32.toUInt32 2 &&& Int32.toUInt32 31)).toInt32 &&& 858993459)) + ((((a1 - ((a1.toUInt32 >>> (Int32.toUInt32 1 &&& Int32.toUInt32 31)).toInt32 &&& 1431655765)) &&& 858993459) + (((a1 - ((a1.toUInt32 >>> (Int32.toUInt32 1 &&& Int32.toUInt32 31)).toInt32 &&& 1431655765)).toUInt32 >>> (Int32.toUInt32 2 &&& Int32.toUInt32 31)).toInt32 &&& 858993459)).toUInt32 >>> (Int32.toUInt32 4 &&& Int32.toUInt32 31)).toInt32) &&& 252645135) + ((((((a1 - ((a1.toUInt32 >>> (Int32.toUInt32 1 &&& Int32.toUInt32 31)).toInt32 &&& 1431655765)) &&& 858993459) + (((a1 - ((a1.toUInt32 >>> (Int32.toUInt32 1 &&& Int32.toUInt32 31)).toInt32 &&& 1431655765)).toUInt32 >>> (Int32.toUInt32 2 &&& Int32.toUInt32 31)).toInt32 &&& 858993459)) + ((((a1 - ((a1.toUInt32 >>> (Int32.toUInt32 1 &&& Int32.toUInt32 31)).toInt32 &&& 1431655765)) &&& 858993459) + (((a1 - ((a1.toUInt32 >>> (Int32.toUInt32 1 &&& Int32.toUInt32 31)).toInt32 &&& 1431655765)).toUInt32 >>> (Int32.toUInt32 2 &&& Int32.toUInt32 31)).toInt32 &&& 858993459)).toUInt32 >>> (Int32.toUInt32 4 &&& Int32.toUInt32 31)).toInt32) &&& 252645135).toUInt32 >>> (Int32.toUInt32 8 &&& Int32.toUInt32 31)).toInt32).toUInt32 >>> (Int32.toUInt32 16 &&& Int32.toUInt32 31)).toInt32)]) fe_194_49 rfl ?_
  refine ay_t_stk (pc := 51) (S' := [.int ((((((((a1 - ((a1.toUInt32 >>> (Int32.toUInt32 1 &&& Int32.toUInt32 31)).toInt32 &&& 1431655765)) &&& 858993459) + (((a1 - ((a1.toUInt32 >>> (Int32.toUInt32 1 &&& Int32.toUInt32 31)).toInt32 &&& 1431655765)).toUInt32 >>> (Int32.toUInt32 2 &&& Int32.toUInt32 31)).toInt32 &&& 858993459)) + ((((a1 - ((a1.toUInt32 >>> (Int32.toUInt32 1 &&& Int32.toUInt32 31)).toInt32 &&& 1431655765)) &&& 858993459) + (((a1 - ((a1.toUInt32 >>> (Int32.toUInt32 1 &&& Int32.toUInt32 31)).toInt32 &&& 1431655765)).toUInt32 >>> (Int32.toUInt32 2 &&& Int32.toUInt32 31)).toInt32 &&& 858993459)).toUInt32 >>> (Int32.toUInt32 4 &&& Int32.toUInt32 31)).toInt32) &&& 252645135) + ((((((a1 - ((a1.toUInt32 >>> (Int32.toUInt32 1 &&& Int32.toUInt32 31)).toInt32 &&& 1431655765)) &&& 858993459) + (((a1 - ((a1.toUInt32 >>> (Int32.toUInt32 1 &&& Int32.toUInt32 31)).toInt32 &&& 1431655765)).toUInt32 >>> (Int32.toUInt32 2 &&& Int32.toUInt32 31)).toInt32 &&& 858993459)) + ((((a1 - ((a1.toUInt32 >>> (Int32.toUInt32 1 &&& Int32.toUInt32 31)).toInt32 &&& 1431655765)) &&& 858993459) + (((a1 - ((a1.toUInt32 >>> (Int32.toUInt32 1 &&& Int32.toUInt32 31)).toInt32 &&& 1431655765)).toUInt32 >>> (Int32.toUInt32 2 &&& Int32.toUInt32 31)).toInt32 &&& 858993459)).toUInt32 >>> (Int32.toUInt32 4 &&& Int32.toUInt32 31)).toInt32) &&& 252645135).toUInt32 >>> (Int32.toUInt32 8 &&& Int32.toUInt32 31)).toInt32) + (((((((a1 - ((a1.toUInt32 >>> (Int32.toUInt32 1 &&& Int32.toUInt32 31)).toInt32 &&& 1431655765)) &&& 858993459) + (((a1 - ((a1.toUInt32 >>> (Int32.toUInt32 1 &&& Int32.toUInt32 31)).toInt32 &&& 1431655765)).toUInt32 >>> (Int32.toUInt32 2 &&& Int32.toUInt32 31)).toInt32 &&& 858993459)) + ((((a1 - ((a1.toUInt32 >>> (Int32.toUInt32 1 &&& Int32.toUInt32 31)).toInt32 &&& 1431655765)) &&& 858993459) + (((a1 - ((a1.toUInt32 >>> (Int32.toUInt32 1 &&& Int32.toUInt32 31)).toInt32 &&& 1431655765)).toUInt32 >>> (Int32.toUInt32 2 &&& Int32.toUInt32 31)).toInt32 &&& 858993459)).toUInt32 >>> (Int32.toUInt32 4 &&& Int32.toUInt32 31)).toInt32) &&& 252645135) + ((((((a1 - ((a1.toUInt32 >>> (Int32.toUInt32 1 &&& Int32.toUInt32 31)).toInt32 &&& 1431655765)) &&& 858993459) + (((a1 - ((a1.toUInt32 >>> (Int32.toUInt32 1 &&& Int32.toUInt32 31)).toInt32 &&& 1431655765)).toUInt32 >>> (Int32.toUInt32 2 &&& Int32.toUInt32 31)).toInt32 &&& 858993459)) + ((((a1 - ((a1.toUInt32 >>> (Int32.toUInt32 1 &&& Int32.toUInt32 31)).toInt32 &&& 1431655765)) &&& 858993459) + (((a1 - ((a1.toUInt32 >>> (Int32.toUInt32 1 &&& Int32.toUInt32 31)).toInt32 &&& 1431655765)).toUInt32 >>> (Int32.toUInt32 2 &&& Int32.toUInt32 31)).toInt32 &&& 858993459)).toUInt32 >>> (Int32.toUInt32 4 &&& Int32.toUInt32 31)).toInt32) &&& 252645135).toUInt32 >>> (Int32.toUInt32 8 &&& Int32.toUInt32 31)).toInt32).toUInt32 >>> (Int32.toUInt32 16 &&& Int32.toUInt32 31)).toInt32) &&& 63)]) fe_194_51 rfl ?_
  cases h
  exact ay_t_iret fe_194_52 rfl rfl
def fn_195_8 : Nat → Int32 → Int32 → am_DD → Option (Int32 × am_DD)
  | 0, _, _, _ => none
  | n + 1, x1, x2, D => (if (D 40 3) ≤ x2 then some (x1, D) else (match fn_194 (rw_at (D 44) 60 x2) D with | none => none | some (y5, D6) => fn_195_8 n (if x1 < y5 then y5 else x1) (x2 + 1) D6))
set_option maxHeartbeats 2000000 in
theorem ev_195_8 : ∀ (n : Nat) (x1 x2 : Int32) (D : am_DD) (y : Int32) (Z : am_DD), fn_195_8 n x1 x2 D = some (y, Z) → ay_to 195 8 [some (.ref 40), some (.int x1), some (.int x2)] [] D (.inl (some (.int y))) Z := by
  intro n
  induction n with
  | zero => intro x1 x2 D y Z h; cases h
  | succ n ih =>
    intro x1 x2 D y Z h
    rw [fn_195_8] at h
    refine ay_t_loc (pc := 8) fe_195_8 rfl ?_
    refine ay_t_loc (pc := 9) fe_195_9 rfl ?_
    refine ay_t_getI (pc := 10) fe_195_10 at_40 (by decide +kernel) rfl ?_
    by_cases hc4 : (D 40 3) ≤ x2
    · rw [if_pos hc4] at h
      refine ay_t_pos (pc := 13) hc4 fe_195_13 rfl ?_
      refine ay_t_loc (pc := 38) fe_195_38 rfl ?_
      cases h
      exact ay_t_iret fe_195_39 rfl rfl
    · rw [if_neg hc4] at h
      refine ay_t_neg (pc := 13) hc4 fe_195_13 rfl ?_
      refine ay_t_loc (pc := 16) fe_195_16 rfl ?_
      refine ay_t_loc (pc := 17) fe_195_17 rfl ?_
      refine ay_t_getR (pc := 18) (w := .ref 43) fe_195_18 at_40 (by decide +kernel) rfl ?_
      refine ay_t_loc (pc := 21) fe_195_21 rfl ?_
      refine ay_t_call (pc := 22) (w := some (.int (rw_at (D 44) 60 x2))) fe_195_22 (ay_args [.ref 43, .int x2] [.int x1] rfl rfl (Nat.le_of_ble_eq_true rfl) (Nat.le_of_ble_eq_true rfl)) (ay_rcvV at_43 rfl) (mt_at at_43 at_44 (by decide)) ?_
      cases hk7 : fn_194 (rw_at (D 44) 60 x2) D with
      | none => rw [hk7] at h; cases h
      | some z =>
        obtain ⟨y5, D6⟩ := z
        rw [hk7] at h
        dsimp only at h
        refine ay_t_call (pc := 25) (w := some (.int y5)) fe_195_25 (ay_args [.int (rw_at (D 44) 60 x2)] [.int x1] rfl rfl (Nat.le_of_ble_eq_true rfl) (Nat.le_of_ble_eq_true rfl)) rfl (ev_194 hk7) ?_
        refine ay_t_lib (pc := 28) (S' := [.int (if x1 < y5 then y5 else x1)]) fe_195_28 rfl ?_
        refine ay_t_loc (pc := 31) (L' := [some (.ref 40), some (.int (if x1 < y5 then y5 else x1)), some (.int x2)]) fe_195_31 rfl ?_
        refine ay_t_loc (pc := 32) (L' := [some (.ref 40), some (.int (if x1 < y5 then y5 else x1)), some (.int (x2 + 1))]) fe_195_32 rfl ?_
        refine ay_t_br (pc := 35) (pc' := 8) fe_195_35 rfl ?_
        exact ay_t_less (ay_ls (ay_ls (ay_ls ay_l0))) (ih _ _ _ _ _ h)
def fn_195 (D : am_DD) : Option (Int32 × am_DD) := (match fn_191 D with | none => none | some (y1, D2) => fn_195_8 am_F 0 0 D2)
set_option maxHeartbeats 2000000 in
theorem ev_195 {D : am_DD} {y : Int32} {Z : am_DD} (h : fn_195  D = some (y, Z)) : ay_mo 195 [.ref 40] D (.inl (some (.int y))) Z := by
  unfold fn_195 at h
  refine ay_m_of (L := [some (.ref 40), none, none]) rfl ?_
  refine ay_t_loc (pc := 0) fe_195_0 rfl ?_
  cases hk3 : fn_191 D with
  | none => rw [hk3] at h; cases h
  | some z =>
    obtain ⟨y1, D2⟩ := z
    rw [hk3] at h
    dsimp only at h
    refine ay_t_call (pc := 1) (w := none) fe_195_1 (ay_args [.ref 40] [] rfl rfl (Nat.le_of_ble_eq_true rfl) (Nat.le_of_ble_eq_true rfl)) (ay_rcvV at_40 rfl) (ev_191 hk3) ?_
    refine ay_t_stk (pc := 4) (S' := [.int 0]) fe_195_4 rfl ?_
    refine ay_t_loc (pc := 5) (L' := [some (.ref 40), some (.int 0), none]) fe_195_5 rfl ?_
    refine ay_t_stk (pc := 6) (S' := [.int 0]) fe_195_6 rfl ?_
    refine ay_t_loc (pc := 7) (L' := [some (.ref 40), some (.int 0), some (.int 0)]) fe_195_7 rfl ?_
    exact ay_t_less (ay_ls (ay_ls (ay_ls ay_l0))) (ev_195_8 _ _ _ _ _ _ h)
def fn_196_4 : Nat → Int32 → Int32 → Int32 → am_DD → Option (Int32 × am_DD)
  | 0, _, _, _, _ => none
  | n + 1, x1, x2, x3, D => (if (D 26 1) ≤ x3 then some (x2, D) else (match fn_177 x3 D with | none => none | some (y2, D3) => (match fn_177 (x3 - 1) D3 with | none => none | some (y5, D6) => (if ((y2 - y5) * x1) ≤ 0 then fn_196_4 n x1 (x2 + 0) (x3 + 1) D6 else fn_196_4 n x1 (x2 + 1) (x3 + 1) D6))))
set_option maxHeartbeats 2000000 in
theorem ev_196_4 : ∀ (n : Nat) (x1 x2 x3 : Int32) (D : am_DD) (y : Int32) (Z : am_DD), fn_196_4 n x1 x2 x3 D = some (y, Z) → ay_to 196 4 [some (.ref 40), some (.int x1), some (.int x2), some (.int x3), none] [] D (.inl (some (.int y))) Z := by
  intro n
  induction n with
  | zero => intro x1 x2 x3 D y Z h; cases h
  | succ n ih =>
    intro x1 x2 x3 D y Z h
    rw [fn_196_4] at h
    refine ay_t_loc (pc := 4) fe_196_4 rfl ?_
    refine ay_t_loc (pc := 5) fe_196_5 rfl ?_
    refine ay_t_getR (pc := 6) (w := .ref 26) fe_196_6 at_40 (by decide +kernel) rfl ?_
    refine ay_t_getI (pc := 9) fe_196_9 at_26 (by decide +kernel) rfl ?_
    by_cases hc1 : (D 26 1) ≤ x3
    · rw [if_pos hc1] at h
      refine ay_t_pos (pc := 12) hc1 fe_196_12 rfl ?_
      refine ay_t_loc (pc := 57) fe_196_57 rfl ?_
      cases h
      exact ay_t_iret fe_196_58 rfl rfl
    · rw [if_neg hc1] at h
      refine ay_t_neg (pc := 12) hc1 fe_196_12 rfl ?_
      refine ay_t_loc (pc := 15) fe_196_15 rfl ?_
      refine ay_t_getR (pc := 16) (w := .ref 26) fe_196_16 at_40 (by decide +kernel) rfl ?_
      refine ay_t_loc (pc := 19) fe_196_19 rfl ?_
      cases hk4 : fn_177 x3 D with
      | none => rw [hk4] at h; cases h
      | some z =>
        obtain ⟨y2, D3⟩ := z
        rw [hk4] at h
        dsimp only at h
        refine ay_t_call (pc := 20) (w := some (.int y2)) fe_196_20 (ay_args [.ref 26, .int x3] [] rfl rfl (Nat.le_of_ble_eq_true rfl) (Nat.le_of_ble_eq_true rfl)) (ay_rcvV at_26 rfl) (ev_177 hk4) ?_
        refine ay_t_loc (pc := 23) fe_196_23 rfl ?_
        refine ay_t_getR (pc := 24) (w := .ref 26) fe_196_24 at_40 (by decide +kernel) rfl ?_
        refine ay_t_loc (pc := 27) fe_196_27 rfl ?_
        refine ay_t_stk (pc := 28) (S' := [.int 1, .int x3, .ref 26, .int y2]) fe_196_28 rfl ?_
        refine ay_t_stk (pc := 29) (S' := [.int (x3 - 1), .ref 26, .int y2]) fe_196_29 rfl ?_
        cases hk7 : fn_177 (x3 - 1) D3 with
        | none => rw [hk7] at h; cases h
        | some z =>
          obtain ⟨y5, D6⟩ := z
          rw [hk7] at h
          dsimp only at h
          refine ay_t_call (pc := 30) (w := some (.int y5)) fe_196_30 (ay_args [.ref 26, .int (x3 - 1)] [.int y2] rfl rfl (Nat.le_of_ble_eq_true rfl) (Nat.le_of_ble_eq_true rfl)) (ay_rcvV at_26 rfl) (ev_177 hk7) ?_
          refine ay_t_stk (pc := 33) (S' := [.int (y2 - y5)]) fe_196_33 rfl ?_
          refine ay_t_loc (pc := 34) (L' := [some (.ref 40), some (.int x1), some (.int x2), some (.int x3), some (.int (y2 - y5))]) fe_196_34 rfl ?_
          refine ay_t_loc (pc := 36) fe_196_36 rfl ?_
          refine ay_t_loc (pc := 37) fe_196_37 rfl ?_
          refine ay_t_loc (pc := 39) fe_196_39 rfl ?_
          refine ay_t_stk (pc := 40) (S' := [.int ((y2 - y5) * x1), .int x2]) fe_196_40 rfl ?_
          by_cases hc8 : ((y2 - y5) * x1) ≤ 0
          · rw [if_pos hc8] at h
            refine ay_t_pos (pc := 41) hc8 fe_196_41 rfl ?_
            refine ay_t_stk (pc := 48) (S' := [.int 0, .int x2]) fe_196_48 rfl ?_
            refine ay_t_stk (pc := 49) (S' := [.int (x2 + 0)]) fe_196_49 rfl ?_
            refine ay_t_loc (pc := 50) (L' := [some (.ref 40), some (.int x1), some (.int (x2 + 0)), some (.int x3), some (.int (y2 - y5))]) fe_196_50 rfl ?_
            refine ay_t_loc (pc := 51) (L' := [some (.ref 40), some (.int x1), some (.int (x2 + 0)), some (.int (x3 + 1)), some (.int (y2 - y5))]) fe_196_51 rfl ?_
            refine ay_t_br (pc := 54) (pc' := 4) fe_196_54 rfl ?_
            exact ay_t_less (ay_ls (ay_ls (ay_ls (ay_ls (ay_ln ay_l0))))) (ih _ _ _ _ _ _ h)
          · rw [if_neg hc8] at h
            refine ay_t_neg (pc := 41) hc8 fe_196_41 rfl ?_
            refine ay_t_stk (pc := 44) (S' := [.int 1, .int x2]) fe_196_44 rfl ?_
            refine ay_t_br (pc := 45) (pc' := 49) fe_196_45 rfl ?_
            refine ay_t_stk (pc := 49) (S' := [.int (x2 + 1)]) fe_196_49 rfl ?_
            refine ay_t_loc (pc := 50) (L' := [some (.ref 40), some (.int x1), some (.int (x2 + 1)), some (.int x3), some (.int (y2 - y5))]) fe_196_50 rfl ?_
            refine ay_t_loc (pc := 51) (L' := [some (.ref 40), some (.int x1), some (.int (x2 + 1)), some (.int (x3 + 1)), some (.int (y2 - y5))]) fe_196_51 rfl ?_
            refine ay_t_br (pc := 54) (pc' := 4) fe_196_54 rfl ?_
            exact ay_t_less (ay_ls (ay_ls (ay_ls (ay_ls (ay_ln ay_l0))))) (ih _ _ _ _ _ _ h)
def fn_196 (a1 : Int32) (D : am_DD) : Option (Int32 × am_DD) := fn_196_4 am_F a1 0 1 D
set_option maxHeartbeats 2000000 in
theorem ev_196 {a1 : Int32} {D : am_DD} {y : Int32} {Z : am_DD} (h : fn_196 a1 D = some (y, Z)) : ay_mo 196 [.ref 40, .int a1] D (.inl (some (.int y))) Z := by
  unfold fn_196 at h
  refine ay_m_of (L := [some (.ref 40), some (.int a1), none, none, none]) rfl ?_
  refine ay_t_stk (pc := 0) (S' := [.int 0]) fe_196_0 rfl ?_
  refine ay_t_loc (pc := 1) (L' := [some (.ref 40), some (.int a1), some (.int 0), none, none]) fe_196_1 rfl ?_
  refine ay_t_stk (pc := 2) (S' := [.int 1]) fe_196_2 rfl ?_
  refine ay_t_loc (pc := 3) (L' := [some (.ref 40), some (.int a1), some (.int 0), some (.int 1), none]) fe_196_3 rfl ?_
  exact ay_t_less (ay_ls (ay_ls (ay_ls (ay_ls (ay_ls ay_l0))))) (ev_196_4 _ _ _ _ _ _ _ h)
def fn_197 (a1 : Int32) (D : am_DD) : Option (Int32 × Nat × am_DD) := (if a1 = 0 then some ((D 26 1), 0, D) else (if a1 = 1 then (match fn_189 D with | none => none | some (y3, D4) => some (y3, 0, D4)) else (if a1 = 2 then (match fn_190 D with | none => none | some (y7, D8) => some (y7, 0, D8)) else (if a1 = 3 then (match fn_193 D with | none => none | some (y11, D12) => some (y11, 0, D12)) else (if a1 = 4 then (match fn_195 D with | none => none | some (y15, D16) => some (y15, 0, D16)) else (if a1 = 5 then (match fn_196 1 D with | none => none | some (y19, D20) => some (y19, 0, D20)) else (if a1 = 6 then (match fn_196 (-1) D with | none => none | some (y23, D24) => some (y23, 0, D24)) else some (0, 1, D))))))))
set_option maxHeartbeats 2000000 in
theorem ev_197 {a1 : Int32} {D : am_DD} {y : Int32} {k : Nat} {Z : am_DD} (h : fn_197 a1 D = some (y, k, Z)) : ay_mo 197 [.ref 0, .int a1] D (ay_oc y k) Z := by
  unfold fn_197 at h
  refine ay_m_of (L := [some (.ref 0), some (.int a1)]) rfl ?_
  refine ay_t_loc (pc := 0) fe_197_0 rfl ?_
  by_cases hc1 : a1 = 0
  · rw [if_pos hc1] at h
    refine ay_t_br (pc := 1) (pc' := 44) (S' := []) fe_197_1 (by rw [hc1]; rfl) ?_
    refine ay_t_loc (pc := 44) fe_197_44 rfl ?_
    refine ay_t_getR (pc := 45) (w := .ref 1) fe_197_45 at_0 (by decide +kernel) rfl ?_
    refine ay_t_getR (pc := 48) (w := .ref 26) fe_197_48 at_1 (by decide +kernel) rfl ?_
    refine ay_t_getI (pc := 51) fe_197_51 at_26 (by decide +kernel) rfl ?_
    cases h
    exact ay_t_iret fe_197_54 rfl rfl
  · rw [if_neg hc1] at h
    by_cases hc2 : a1 = 1
    · rw [if_pos hc2] at h
      refine ay_t_br (pc := 1) (pc' := 55) (S' := []) fe_197_1 (by rw [hc2]; rfl) ?_
      refine ay_t_loc (pc := 55) fe_197_55 rfl ?_
      refine ay_t_getR (pc := 56) (w := .ref 40) fe_197_56 at_0 (by decide +kernel) rfl ?_
      cases hk5 : fn_189 D with
      | none => rw [hk5] at h; cases h
      | some z =>
        obtain ⟨y3, D4⟩ := z
        rw [hk5] at h
        dsimp only at h
        refine ay_t_call (pc := 59) (w := some (.int y3)) fe_197_59 (ay_args [.ref 40] [] rfl rfl (Nat.le_of_ble_eq_true rfl) (Nat.le_of_ble_eq_true rfl)) (ay_rcvV at_40 rfl) (ev_189 hk5) ?_
        cases h
        exact ay_t_iret fe_197_62 rfl rfl
    · rw [if_neg hc2] at h
      by_cases hc6 : a1 = 2
      · rw [if_pos hc6] at h
        refine ay_t_br (pc := 1) (pc' := 63) (S' := []) fe_197_1 (by rw [hc6]; rfl) ?_
        refine ay_t_loc (pc := 63) fe_197_63 rfl ?_
        refine ay_t_getR (pc := 64) (w := .ref 40) fe_197_64 at_0 (by decide +kernel) rfl ?_
        cases hk9 : fn_190 D with
        | none => rw [hk9] at h; cases h
        | some z =>
          obtain ⟨y7, D8⟩ := z
          rw [hk9] at h
          dsimp only at h
          refine ay_t_call (pc := 67) (w := some (.int y7)) fe_197_67 (ay_args [.ref 40] [] rfl rfl (Nat.le_of_ble_eq_true rfl) (Nat.le_of_ble_eq_true rfl)) (ay_rcvV at_40 rfl) (ev_190 hk9) ?_
          cases h
          exact ay_t_iret fe_197_70 rfl rfl
      · rw [if_neg hc6] at h
        by_cases hc10 : a1 = 3
        · rw [if_pos hc10] at h
          refine ay_t_br (pc := 1) (pc' := 71) (S' := []) fe_197_1 (by rw [hc10]; rfl) ?_
          refine ay_t_loc (pc := 71) fe_197_71 rfl ?_
          refine ay_t_getR (pc := 72) (w := .ref 40) fe_197_72 at_0 (by decide +kernel) rfl ?_
          cases hk13 : fn_193 D with
          | none => rw [hk13] at h; cases h
          | some z =>
            obtain ⟨y11, D12⟩ := z
            rw [hk13] at h
            dsimp only at h
            refine ay_t_call (pc := 75) (w := some (.int y11)) fe_197_75 (ay_args [.ref 40] [] rfl rfl (Nat.le_of_ble_eq_true rfl) (Nat.le_of_ble_eq_true rfl)) (ay_rcvV at_40 rfl) (ev_193 hk13) ?_
            cases h
            exact ay_t_iret fe_197_78 rfl rfl
        · rw [if_neg hc10] at h
          by_cases hc14 : a1 = 4
          · rw [if_pos hc14] at h
            refine ay_t_br (pc := 1) (pc' := 79) (S' := []) fe_197_1 (by rw [hc14]; rfl) ?_
            refine ay_t_loc (pc := 79) fe_197_79 rfl ?_
            refine ay_t_getR (pc := 80) (w := .ref 40) fe_197_80 at_0 (by decide +kernel) rfl ?_
            cases hk17 : fn_195 D with
            | none => rw [hk17] at h; cases h
            | some z =>
              obtain ⟨y15, D16⟩ := z
              rw [hk17] at h
              dsimp only at h
              refine ay_t_call (pc := 83) (w := some (.int y15)) fe_197_83 (ay_args [.ref 40] [] rfl rfl (Nat.le_of_ble_eq_true rfl) (Nat.le_of_ble_eq_true rfl)) (ay_rcvV at_40 rfl) (ev_195 hk17) ?_
              cases h
              exact ay_t_iret fe_197_86 rfl rfl
          · rw [if_neg hc14] at h
            by_cases hc18 : a1 = 5
            · rw [if_pos hc18] at h
              refine ay_t_br (pc := 1) (pc' := 87) (S' := []) fe_197_1 (by rw [hc18]; rfl) ?_
              refine ay_t_loc (pc := 87) fe_197_87 rfl ?_
              refine ay_t_getR (pc := 88) (w := .ref 40) fe_197_88 at_0 (by decide +kernel) rfl ?_
              refine ay_t_stk (pc := 91) (S' := [.int 1, .ref 40]) fe_197_91 rfl ?_
              cases hk21 : fn_196 1 D with
              | none => rw [hk21] at h; cases h
              | some z =>
                obtain ⟨y19, D20⟩ := z
                rw [hk21] at h
                dsimp only at h
                refine ay_t_call (pc := 92) (w := some (.int y19)) fe_197_92 (ay_args [.ref 40, .int 1] [] rfl rfl (Nat.le_of_ble_eq_true rfl) (Nat.le_of_ble_eq_true rfl)) (ay_rcvV at_40 rfl) (ev_196 hk21) ?_
                cases h
                exact ay_t_iret fe_197_95 rfl rfl
            · rw [if_neg hc18] at h
              by_cases hc22 : a1 = 6
              · rw [if_pos hc22] at h
                refine ay_t_br (pc := 1) (pc' := 96) (S' := []) fe_197_1 (by rw [hc22]; rfl) ?_
                refine ay_t_loc (pc := 96) fe_197_96 rfl ?_
                refine ay_t_getR (pc := 97) (w := .ref 40) fe_197_97 at_0 (by decide +kernel) rfl ?_
                refine ay_t_stk (pc := 100) (S' := [.int (-1), .ref 40]) fe_197_100 rfl ?_
                cases hk25 : fn_196 (-1) D with
                | none => rw [hk25] at h; cases h
                | some z =>
                  obtain ⟨y23, D24⟩ := z
                  rw [hk25] at h
                  dsimp only at h
                  refine ay_t_call (pc := 101) (w := some (.int y23)) fe_197_101 (ay_args [.ref 40, .int (-1)] [] rfl rfl (Nat.le_of_ble_eq_true rfl) (Nat.le_of_ble_eq_true rfl)) (ay_rcvV at_40 rfl) (ev_196 hk25) ?_
                  cases h
                  exact ay_t_iret fe_197_104 rfl rfl
              · rw [if_neg hc22] at h
                refine ay_t_br (pc := 1) (pc' := 105) fe_197_1 (ay_tab_def (by have z0 := ay_ne_toInt (c := 0) hc1 (by decide); have z1 := ay_ne_toInt (c := 1) hc2 (by decide); have z2 := ay_ne_toInt (c := 2) hc6 (by decide); have z3 := ay_ne_toInt (c := 3) hc10 (by decide); have z4 := ay_ne_toInt (c := 4) hc14 (by decide); have z5 := ay_ne_toInt (c := 5) hc18 (by decide); have z6 := ay_ne_toInt (c := 6) hc22 (by decide); omega) rfl) ?_
                cases h
                exact ay_t_thr fe_197_105 (by decide)
def fn_199_4 : Nat → Int32 → Int32 → Int32 → am_DD → Option (Int32 × am_DD)
  | 0, _, _, _, _ => none
  | n + 1, x1, x2, x3, D => (if (D 322 10) ≤ x3 then some (x2, D) else (match fn_180 x3 2 D with | none => none | some (y2, D3) => (if ¬ y2 = x1 then fn_199_4 n x1 (x2 + 0) (x3 + 1) D3 else fn_199_4 n x1 (x2 + 1) (x3 + 1) D3)))
set_option maxHeartbeats 2000000 in
theorem ev_199_4 : ∀ (n : Nat) (x1 x2 x3 : Int32) (D : am_DD) (y : Int32) (Z : am_DD), fn_199_4 n x1 x2 x3 D = some (y, Z) → ay_to 199 4 [some (.ref 321), some (.int x1), some (.int x2), some (.int x3)] [] D (.inl (some (.int y))) Z := by
  intro n
  induction n with
  | zero => intro x1 x2 x3 D y Z h; cases h
  | succ n ih =>
    intro x1 x2 x3 D y Z h
    rw [fn_199_4] at h
    refine ay_t_loc (pc := 4) fe_199_4 rfl ?_
    refine ay_t_loc (pc := 5) fe_199_5 rfl ?_
    refine ay_t_getR (pc := 6) (w := .ref 322) fe_199_6 at_321 (by decide +kernel) rfl ?_
    refine ay_t_stk (pc := 9) (S' := [.int 10, .ref 322, .int x3]) fe_199_9 rfl ?_
    refine ay_t_ialoadk (pc := 11) (k := 10) fe_199_11 at_322 (by decide) (by decide) (by decide) ?_
    by_cases hc1 : (D 322 10) ≤ x3
    · rw [if_pos hc1] at h
      refine ay_t_pos (pc := 12) hc1 fe_199_12 rfl ?_
      refine ay_t_loc (pc := 39) fe_199_39 rfl ?_
      cases h
      exact ay_t_iret fe_199_40 rfl rfl
    · rw [if_neg hc1] at h
      refine ay_t_neg (pc := 12) hc1 fe_199_12 rfl ?_
      refine ay_t_loc (pc := 15) fe_199_15 rfl ?_
      refine ay_t_loc (pc := 16) fe_199_16 rfl ?_
      refine ay_t_loc (pc := 17) fe_199_17 rfl ?_
      refine ay_t_stk (pc := 18) (S' := [.int 2, .int x3, .ref 321, .int x2]) fe_199_18 rfl ?_
      cases hk4 : fn_180 x3 2 D with
      | none => rw [hk4] at h; cases h
      | some z =>
        obtain ⟨y2, D3⟩ := z
        rw [hk4] at h
        dsimp only at h
        refine ay_t_call (pc := 19) (w := some (.int y2)) fe_199_19 (ay_args [.ref 321, .int x3, .int 2] [.int x2] rfl rfl (Nat.le_of_ble_eq_true rfl) (Nat.le_of_ble_eq_true rfl)) (ay_rcvV at_321 rfl) (ev_180 hk4) ?_
        refine ay_t_loc (pc := 22) fe_199_22 rfl ?_
        by_cases hc5 : ¬ y2 = x1
        · rw [if_pos hc5] at h
          refine ay_t_pos (pc := 23) hc5 fe_199_23 rfl ?_
          refine ay_t_stk (pc := 30) (S' := [.int 0, .int x2]) fe_199_30 rfl ?_
          refine ay_t_stk (pc := 31) (S' := [.int (x2 + 0)]) fe_199_31 rfl ?_
          refine ay_t_loc (pc := 32) (L' := [some (.ref 321), some (.int x1), some (.int (x2 + 0)), some (.int x3)]) fe_199_32 rfl ?_
          refine ay_t_loc (pc := 33) (L' := [some (.ref 321), some (.int x1), some (.int (x2 + 0)), some (.int (x3 + 1))]) fe_199_33 rfl ?_
          refine ay_t_br (pc := 36) (pc' := 4) fe_199_36 rfl ?_
          exact ay_t_less (ay_ls (ay_ls (ay_ls (ay_ls ay_l0)))) (ih _ _ _ _ _ _ h)
        · rw [if_neg hc5] at h
          refine ay_t_neg (pc := 23) hc5 fe_199_23 rfl ?_
          refine ay_t_stk (pc := 26) (S' := [.int 1, .int x2]) fe_199_26 rfl ?_
          refine ay_t_br (pc := 27) (pc' := 31) fe_199_27 rfl ?_
          refine ay_t_stk (pc := 31) (S' := [.int (x2 + 1)]) fe_199_31 rfl ?_
          refine ay_t_loc (pc := 32) (L' := [some (.ref 321), some (.int x1), some (.int (x2 + 1)), some (.int x3)]) fe_199_32 rfl ?_
          refine ay_t_loc (pc := 33) (L' := [some (.ref 321), some (.int x1), some (.int (x2 + 1)), some (.int (x3 + 1))]) fe_199_33 rfl ?_
          refine ay_t_br (pc := 36) (pc' := 4) fe_199_36 rfl ?_
          exact ay_t_less (ay_ls (ay_ls (ay_ls (ay_ls ay_l0)))) (ih _ _ _ _ _ _ h)
def fn_199 (a1 : Int32) (D : am_DD) : Option (Int32 × am_DD) := fn_199_4 am_F a1 0 0 D
set_option maxHeartbeats 2000000 in
theorem ev_199 {a1 : Int32} {D : am_DD} {y : Int32} {Z : am_DD} (h : fn_199 a1 D = some (y, Z)) : ay_mo 199 [.ref 321, .int a1] D (.inl (some (.int y))) Z := by
  unfold fn_199 at h
  refine ay_m_of (L := [some (.ref 321), some (.int a1), none, none]) rfl ?_
  refine ay_t_stk (pc := 0) (S' := [.int 0]) fe_199_0 rfl ?_
  refine ay_t_loc (pc := 1) (L' := [some (.ref 321), some (.int a1), some (.int 0), none]) fe_199_1 rfl ?_
  refine ay_t_stk (pc := 2) (S' := [.int 0]) fe_199_2 rfl ?_
  refine ay_t_loc (pc := 3) (L' := [some (.ref 321), some (.int a1), some (.int 0), some (.int 0)]) fe_199_3 rfl ?_
  exact ay_t_less (ay_ls (ay_ls (ay_ls (ay_ls ay_l0)))) (ev_199_4 _ _ _ _ _ _ _ h)
def fn_200_4 : Nat → Int32 → Int32 → am_DD → Option (Int32 × am_DD)
  | 0, _, _, _ => none
  | n + 1, x1, x2, D => (if 31 ≤ x2 then some (x1, D) else (match fn_199 x2 D with | none => none | some (y2, D3) => (if y2 ≤ 0 then fn_200_4 n (x1 + 0) (x2 + 1) D3 else fn_200_4 n (x1 + 1) (x2 + 1) D3)))
set_option maxHeartbeats 2000000 in
theorem ev_200_4 : ∀ (n : Nat) (x1 x2 : Int32) (D : am_DD) (y : Int32) (Z : am_DD), fn_200_4 n x1 x2 D = some (y, Z) → ay_to 200 4 [some (.ref 321), some (.int x1), some (.int x2)] [] D (.inl (some (.int y))) Z := by
  intro n
  induction n with
  | zero => intro x1 x2 D y Z h; cases h
  | succ n ih =>
    intro x1 x2 D y Z h
    rw [fn_200_4] at h
    refine ay_t_loc (pc := 4) fe_200_4 rfl ?_
    refine ay_t_stk (pc := 5) (S' := [.int 31, .int x2]) fe_200_5 rfl ?_
    by_cases hc1 : 31 ≤ x2
    · rw [if_pos hc1] at h
      refine ay_t_pos (pc := 7) hc1 fe_200_7 rfl ?_
      refine ay_t_loc (pc := 32) fe_200_32 rfl ?_
      cases h
      exact ay_t_iret fe_200_33 rfl rfl
    · rw [if_neg hc1] at h
      refine ay_t_neg (pc := 7) hc1 fe_200_7 rfl ?_
      refine ay_t_loc (pc := 10) fe_200_10 rfl ?_
      refine ay_t_loc (pc := 11) fe_200_11 rfl ?_
      refine ay_t_loc (pc := 12) fe_200_12 rfl ?_
      cases hk4 : fn_199 x2 D with
      | none => rw [hk4] at h; cases h
      | some z =>
        obtain ⟨y2, D3⟩ := z
        rw [hk4] at h
        dsimp only at h
        refine ay_t_call (pc := 13) (w := some (.int y2)) fe_200_13 (ay_args [.ref 321, .int x2] [.int x1] rfl rfl (Nat.le_of_ble_eq_true rfl) (Nat.le_of_ble_eq_true rfl)) (ay_rcvV at_321 rfl) (ev_199 hk4) ?_
        by_cases hc5 : y2 ≤ 0
        · rw [if_pos hc5] at h
          refine ay_t_pos (pc := 16) hc5 fe_200_16 rfl ?_
          refine ay_t_stk (pc := 23) (S' := [.int 0, .int x1]) fe_200_23 rfl ?_
          refine ay_t_stk (pc := 24) (S' := [.int (x1 + 0)]) fe_200_24 rfl ?_
          refine ay_t_loc (pc := 25) (L' := [some (.ref 321), some (.int (x1 + 0)), some (.int x2)]) fe_200_25 rfl ?_
          refine ay_t_loc (pc := 26) (L' := [some (.ref 321), some (.int (x1 + 0)), some (.int (x2 + 1))]) fe_200_26 rfl ?_
          refine ay_t_br (pc := 29) (pc' := 4) fe_200_29 rfl ?_
          exact ay_t_less (ay_ls (ay_ls (ay_ls ay_l0))) (ih _ _ _ _ _ h)
        · rw [if_neg hc5] at h
          refine ay_t_neg (pc := 16) hc5 fe_200_16 rfl ?_
          refine ay_t_stk (pc := 19) (S' := [.int 1, .int x1]) fe_200_19 rfl ?_
          refine ay_t_br (pc := 20) (pc' := 24) fe_200_20 rfl ?_
          refine ay_t_stk (pc := 24) (S' := [.int (x1 + 1)]) fe_200_24 rfl ?_
          refine ay_t_loc (pc := 25) (L' := [some (.ref 321), some (.int (x1 + 1)), some (.int x2)]) fe_200_25 rfl ?_
          refine ay_t_loc (pc := 26) (L' := [some (.ref 321), some (.int (x1 + 1)), some (.int (x2 + 1))]) fe_200_26 rfl ?_
          refine ay_t_br (pc := 29) (pc' := 4) fe_200_29 rfl ?_
          exact ay_t_less (ay_ls (ay_ls (ay_ls ay_l0))) (ih _ _ _ _ _ h)
def fn_200 (D : am_DD) : Option (Int32 × am_DD) := fn_200_4 am_F 0 0 D
set_option maxHeartbeats 2000000 in
theorem ev_200 {D : am_DD} {y : Int32} {Z : am_DD} (h : fn_200  D = some (y, Z)) : ay_mo 200 [.ref 321] D (.inl (some (.int y))) Z := by
  unfold fn_200 at h
  refine ay_m_of (L := [some (.ref 321), none, none]) rfl ?_
  refine ay_t_stk (pc := 0) (S' := [.int 0]) fe_200_0 rfl ?_
  refine ay_t_loc (pc := 1) (L' := [some (.ref 321), some (.int 0), none]) fe_200_1 rfl ?_
  refine ay_t_stk (pc := 2) (S' := [.int 0]) fe_200_2 rfl ?_
  refine ay_t_loc (pc := 3) (L' := [some (.ref 321), some (.int 0), some (.int 0)]) fe_200_3 rfl ?_
  exact ay_t_less (ay_ls (ay_ls (ay_ls ay_l0))) (ev_200_4 _ _ _ _ _ _ h)
def fn_201_4 : Nat → Int32 → Int32 → am_DD → Option (Int32 × am_DD)
  | 0, _, _, _ => none
  | n + 1, x1, x2, D => (if 31 ≤ x2 then (if ¬ (D 322 10) = 0 then some (x1, D) else some ((-1), D)) else (match fn_199 x2 D with | none => none | some (y3, D4) => (match fn_199 x1 D4 with | none => none | some (y6, D7) => (if y3 ≤ y6 then fn_201_4 n x1 (x2 + 1) D7 else fn_201_4 n x2 (x2 + 1) D7))))
set_option maxHeartbeats 2000000 in
theorem ev_201_4 : ∀ (n : Nat) (x1 x2 : Int32) (D : am_DD) (y : Int32) (Z : am_DD), fn_201_4 n x1 x2 D = some (y, Z) → ay_to 201 4 [some (.ref 321), some (.int x1), some (.int x2)] [] D (.inl (some (.int y))) Z := by
  intro n
  induction n with
  | zero => intro x1 x2 D y Z h; cases h
  | succ n ih =>
    intro x1 x2 D y Z h
    rw [fn_201_4] at h
    refine ay_t_loc (pc := 4) fe_201_4 rfl ?_
    refine ay_t_stk (pc := 5) (S' := [.int 31, .int x2]) fe_201_5 rfl ?_
    by_cases hc1 : 31 ≤ x2
    · rw [if_pos hc1] at h
      refine ay_t_pos (pc := 7) hc1 fe_201_7 rfl ?_
      refine ay_t_loc (pc := 35) fe_201_35 rfl ?_
      refine ay_t_getR (pc := 36) (w := .ref 322) fe_201_36 at_321 (by decide +kernel) rfl ?_
      refine ay_t_stk (pc := 39) (S' := [.int 10, .ref 322]) fe_201_39 rfl ?_
      refine ay_t_ialoadk (pc := 41) (k := 10) fe_201_41 at_322 (by decide) (by decide) (by decide) ?_
      by_cases hc2 : ¬ (D 322 10) = 0
      · rw [if_pos hc2] at h
        refine ay_t_pos (pc := 42) hc2 fe_201_42 rfl ?_
        refine ay_t_loc (pc := 49) fe_201_49 rfl ?_
        cases h
        exact ay_t_iret fe_201_50 rfl rfl
      · rw [if_neg hc2] at h
        refine ay_t_neg (pc := 42) hc2 fe_201_42 rfl ?_
        refine ay_t_stk (pc := 45) (S' := [.int (-1)]) fe_201_45 rfl ?_
        refine ay_t_br (pc := 46) (pc' := 50) fe_201_46 rfl ?_
        cases h
        exact ay_t_iret fe_201_50 rfl rfl
    · rw [if_neg hc1] at h
      refine ay_t_neg (pc := 7) hc1 fe_201_7 rfl ?_
      refine ay_t_loc (pc := 10) fe_201_10 rfl ?_
      refine ay_t_loc (pc := 11) fe_201_11 rfl ?_
      cases hk5 : fn_199 x2 D with
      | none => rw [hk5] at h; cases h
      | some z =>
        obtain ⟨y3, D4⟩ := z
        rw [hk5] at h
        dsimp only at h
        refine ay_t_call (pc := 12) (w := some (.int y3)) fe_201_12 (ay_args [.ref 321, .int x2] [] rfl rfl (Nat.le_of_ble_eq_true rfl) (Nat.le_of_ble_eq_true rfl)) (ay_rcvV at_321 rfl) (ev_199 hk5) ?_
        refine ay_t_loc (pc := 15) fe_201_15 rfl ?_
        refine ay_t_loc (pc := 16) fe_201_16 rfl ?_
        cases hk8 : fn_199 x1 D4 with
        | none => rw [hk8] at h; cases h
        | some z =>
          obtain ⟨y6, D7⟩ := z
          rw [hk8] at h
          dsimp only at h
          refine ay_t_call (pc := 17) (w := some (.int y6)) fe_201_17 (ay_args [.ref 321, .int x1] [.int y3] rfl rfl (Nat.le_of_ble_eq_true rfl) (Nat.le_of_ble_eq_true rfl)) (ay_rcvV at_321 rfl) (ev_199 hk8) ?_
          by_cases hc9 : y3 ≤ y6
          · rw [if_pos hc9] at h
            refine ay_t_pos (pc := 20) hc9 fe_201_20 rfl ?_
            refine ay_t_loc (pc := 27) fe_201_27 rfl ?_
            refine ay_t_loc (pc := 28) (L' := [some (.ref 321), some (.int x1), some (.int x2)]) fe_201_28 rfl ?_
            refine ay_t_loc (pc := 29) (L' := [some (.ref 321), some (.int x1), some (.int (x2 + 1))]) fe_201_29 rfl ?_
            refine ay_t_br (pc := 32) (pc' := 4) fe_201_32 rfl ?_
            exact ay_t_less (ay_ls (ay_ls (ay_ls ay_l0))) (ih _ _ _ _ _ h)
          · rw [if_neg hc9] at h
            refine ay_t_neg (pc := 20) hc9 fe_201_20 rfl ?_
            refine ay_t_loc (pc := 23) fe_201_23 rfl ?_
            refine ay_t_br (pc := 24) (pc' := 28) fe_201_24 rfl ?_
            refine ay_t_loc (pc := 28) (L' := [some (.ref 321), some (.int x2), some (.int x2)]) fe_201_28 rfl ?_
            refine ay_t_loc (pc := 29) (L' := [some (.ref 321), some (.int x2), some (.int (x2 + 1))]) fe_201_29 rfl ?_
            refine ay_t_br (pc := 32) (pc' := 4) fe_201_32 rfl ?_
            exact ay_t_less (ay_ls (ay_ls (ay_ls ay_l0))) (ih _ _ _ _ _ h)
def fn_201 (D : am_DD) : Option (Int32 × am_DD) := fn_201_4 am_F 0 1 D
set_option maxHeartbeats 2000000 in
theorem ev_201 {D : am_DD} {y : Int32} {Z : am_DD} (h : fn_201  D = some (y, Z)) : ay_mo 201 [.ref 321] D (.inl (some (.int y))) Z := by
  unfold fn_201 at h
  refine ay_m_of (L := [some (.ref 321), none, none]) rfl ?_
  refine ay_t_stk (pc := 0) (S' := [.int 0]) fe_201_0 rfl ?_
  refine ay_t_loc (pc := 1) (L' := [some (.ref 321), some (.int 0), none]) fe_201_1 rfl ?_
  refine ay_t_stk (pc := 2) (S' := [.int 1]) fe_201_2 rfl ?_
  refine ay_t_loc (pc := 3) (L' := [some (.ref 321), some (.int 0), some (.int 1)]) fe_201_3 rfl ?_
  exact ay_t_less (ay_ls (ay_ls (ay_ls ay_l0))) (ev_201_4 _ _ _ _ _ _ h)
def fn_202_16 : Nat → Int32 → Int32 → Int32 → Int32 → am_DD → Option (Int32 × am_DD)
  | 0, _, _, _, _, _ => none
  | n + 1, x1, x2, x3, x4, D => (if x1 ≤ x4 then (if ay_isb x3 then some (x3, D) else none) else (if x3 = 0 then fn_202_16 n x1 x2 0 (x4 + 1) D else (match fn_180 x4 0 D with | none => none | some (y10, D11) => (match fn_185 y10 D11 with | none => none | some (y13, D14) => (if y13 = x2 then fn_202_16 n x1 x2 0 (x4 + 1) D14 else fn_202_16 n x1 x2 1 (x4 + 1) D14)))))
set_option maxHeartbeats 2000000 in
theorem ev_202_16 : ∀ (n : Nat) (x1 x2 x3 x4 : Int32) (D : am_DD) (y : Int32) (Z : am_DD), fn_202_16 n x1 x2 x3 x4 D = some (y, Z) → ay_to 202 16 [some (.ref 321), some (.int x1), some (.int x2), some (.int x3), some (.int x4)] [] D (.inl (some (.int y))) Z := by
  intro n
  induction n with
  | zero => intro x1 x2 x3 x4 D y Z h; cases h
  | succ n ih =>
    intro x1 x2 x3 x4 D y Z h
    rw [fn_202_16] at h
    refine ay_t_loc (pc := 16) fe_202_16 rfl ?_
    refine ay_t_loc (pc := 18) fe_202_18 rfl ?_
    by_cases hc7 : x1 ≤ x4
    · rw [if_pos hc7] at h
      refine ay_t_pos (pc := 19) hc7 fe_202_19 rfl ?_
      refine ay_t_loc (pc := 53) fe_202_53 rfl ?_
      by_cases hn8 : ay_isb x3
      · rw [if_pos hn8] at h
        cases h
        exact ay_t_zret fe_202_54 rfl hn8
      · rw [if_neg hn8] at h; cases h
    · rw [if_neg hc7] at h
      refine ay_t_neg (pc := 19) hc7 fe_202_19 rfl ?_
      refine ay_t_loc (pc := 22) fe_202_22 rfl ?_
      by_cases hc9 : x3 = 0
      · rw [if_pos hc9] at h
        refine ay_t_pos (pc := 23) hc9 fe_202_23 rfl ?_
        refine ay_t_stk (pc := 45) (S' := [.int 0]) fe_202_45 rfl ?_
        refine ay_t_loc (pc := 46) (L' := [some (.ref 321), some (.int x1), some (.int x2), some (.int 0), some (.int x4)]) fe_202_46 rfl ?_
        refine ay_t_loc (pc := 47) (L' := [some (.ref 321), some (.int x1), some (.int x2), some (.int 0), some (.int (x4 + 1))]) fe_202_47 rfl ?_
        refine ay_t_br (pc := 50) (pc' := 16) fe_202_50 rfl ?_
        exact ay_t_less (ay_ls (ay_ls (ay_ls (ay_ls (ay_ls ay_l0))))) (ih _ _ _ _ _ _ _ h)
      · rw [if_neg hc9] at h
        refine ay_t_neg (pc := 23) hc9 fe_202_23 rfl ?_
        refine ay_t_loc (pc := 26) fe_202_26 rfl ?_
        refine ay_t_loc (pc := 27) fe_202_27 rfl ?_
        refine ay_t_loc (pc := 28) fe_202_28 rfl ?_
        refine ay_t_stk (pc := 30) (S' := [.int 0, .int x4, .ref 321, .ref 321]) fe_202_30 rfl ?_
        cases hk12 : fn_180 x4 0 D with
        | none => rw [hk12] at h; cases h
        | some z =>
          obtain ⟨y10, D11⟩ := z
          rw [hk12] at h
          dsimp only at h
          refine ay_t_call (pc := 31) (w := some (.int y10)) fe_202_31 (ay_args [.ref 321, .int x4, .int 0] [.ref 321] rfl rfl (Nat.le_of_ble_eq_true rfl) (Nat.le_of_ble_eq_true rfl)) (ay_rcvV at_321 rfl) (ev_180 hk12) ?_
          cases hk15 : fn_185 y10 D11 with
          | none => rw [hk15] at h; cases h
          | some z =>
            obtain ⟨y13, D14⟩ := z
            rw [hk15] at h
            dsimp only at h
            refine ay_t_call (pc := 34) (w := some (.int y13)) fe_202_34 (ay_args [.ref 321, .int y10] [] rfl rfl (Nat.le_of_ble_eq_true rfl) (Nat.le_of_ble_eq_true rfl)) (ay_rcvV at_321 rfl) (ev_185 hk15) ?_
            refine ay_t_loc (pc := 37) fe_202_37 rfl ?_
            by_cases hc16 : y13 = x2
            · rw [if_pos hc16] at h
              refine ay_t_pos (pc := 38) hc16 fe_202_38 rfl ?_
              refine ay_t_stk (pc := 45) (S' := [.int 0]) fe_202_45 rfl ?_
              refine ay_t_loc (pc := 46) (L' := [some (.ref 321), some (.int x1), some (.int x2), some (.int 0), some (.int x4)]) fe_202_46 rfl ?_
              refine ay_t_loc (pc := 47) (L' := [some (.ref 321), some (.int x1), some (.int x2), some (.int 0), some (.int (x4 + 1))]) fe_202_47 rfl ?_
              refine ay_t_br (pc := 50) (pc' := 16) fe_202_50 rfl ?_
              exact ay_t_less (ay_ls (ay_ls (ay_ls (ay_ls (ay_ls ay_l0))))) (ih _ _ _ _ _ _ _ h)
            · rw [if_neg hc16] at h
              refine ay_t_neg (pc := 38) hc16 fe_202_38 rfl ?_
              refine ay_t_stk (pc := 41) (S' := [.int 1]) fe_202_41 rfl ?_
              refine ay_t_br (pc := 42) (pc' := 46) fe_202_42 rfl ?_
              refine ay_t_loc (pc := 46) (L' := [some (.ref 321), some (.int x1), some (.int x2), some (.int 1), some (.int x4)]) fe_202_46 rfl ?_
              refine ay_t_loc (pc := 47) (L' := [some (.ref 321), some (.int x1), some (.int x2), some (.int 1), some (.int (x4 + 1))]) fe_202_47 rfl ?_
              refine ay_t_br (pc := 50) (pc' := 16) fe_202_50 rfl ?_
              exact ay_t_less (ay_ls (ay_ls (ay_ls (ay_ls (ay_ls ay_l0))))) (ih _ _ _ _ _ _ _ h)
def fn_202 (a1 : Int32) (D : am_DD) : Option (Int32 × am_DD) := (match fn_180 a1 0 D with | none => none | some (y1, D2) => (match fn_185 y1 D2 with | none => none | some (y4, D5) => fn_202_16 am_F a1 y4 1 0 D5))
set_option maxHeartbeats 2000000 in
theorem ev_202 {a1 : Int32} {D : am_DD} {y : Int32} {Z : am_DD} (h : fn_202 a1 D = some (y, Z)) : ay_mo 202 [.ref 321, .int a1] D (.inl (some (.int y))) Z := by
  unfold fn_202 at h
  refine ay_m_of (L := [some (.ref 321), some (.int a1), none, none, none]) rfl ?_
  refine ay_t_loc (pc := 0) fe_202_0 rfl ?_
  refine ay_t_loc (pc := 1) fe_202_1 rfl ?_
  refine ay_t_loc (pc := 2) fe_202_2 rfl ?_
  refine ay_t_stk (pc := 3) (S' := [.int 0, .int a1, .ref 321, .ref 321]) fe_202_3 rfl ?_
  cases hk3 : fn_180 a1 0 D with
  | none => rw [hk3] at h; cases h
  | some z =>
    obtain ⟨y1, D2⟩ := z
    rw [hk3] at h
    dsimp only at h
    refine ay_t_call (pc := 4) (w := some (.int y1)) fe_202_4 (ay_args [.ref 321, .int a1, .int 0] [.ref 321] rfl rfl (Nat.le_of_ble_eq_true rfl) (Nat.le_of_ble_eq_true rfl)) (ay_rcvV at_321 rfl) (ev_180 hk3) ?_
    cases hk6 : fn_185 y1 D2 with
    | none => rw [hk6] at h; cases h
    | some z =>
      obtain ⟨y4, D5⟩ := z
      rw [hk6] at h
      dsimp only at h
      refine ay_t_call (pc := 7) (w := some (.int y4)) fe_202_7 (ay_args [.ref 321, .int y1] [] rfl rfl (Nat.le_of_ble_eq_true rfl) (Nat.le_of_ble_eq_true rfl)) (ay_rcvV at_321 rfl) (ev_185 hk6) ?_
      refine ay_t_loc (pc := 10) (L' := [some (.ref 321), some (.int a1), some (.int y4), none, none]) fe_202_10 rfl ?_
      refine ay_t_stk (pc := 11) (S' := [.int 1]) fe_202_11 rfl ?_
      refine ay_t_loc (pc := 12) (L' := [some (.ref 321), some (.int a1), some (.int y4), some (.int 1), none]) fe_202_12 rfl ?_
      refine ay_t_stk (pc := 13) (S' := [.int 0]) fe_202_13 rfl ?_
      refine ay_t_loc (pc := 14) (L' := [some (.ref 321), some (.int a1), some (.int y4), some (.int 1), some (.int 0)]) fe_202_14 rfl ?_
      exact ay_t_less (ay_ls (ay_ls (ay_ls (ay_ls (ay_ls ay_l0))))) (ev_202_16 _ _ _ _ _ _ _ _ h)
