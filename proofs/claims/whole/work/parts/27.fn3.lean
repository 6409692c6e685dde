/-! methods as functions, with what am_run does (written by wip/whole/gen6.py) -/
def fn_86 (D : am_DD) : Option (Int32 × am_DD) := (if ((105 + (3 * (D 322 3))) + 0) < 0 ∨ 405 ≤ ((105 + (3 * (D 322 3))) + 0).toNatClampNeg then none else (if ((105 + (3 * (D 322 3))) + 1) < 0 ∨ 405 ≤ ((105 + (3 * (D 322 3))) + 1).toNatClampNeg then none else (if ((105 + (3 * (D 322 3))) + 2) < 0 ∨ 405 ≤ ((105 + (3 * (D 322 3))) + 2).toNatClampNeg then none else some (0, (am_upd (am_upd (am_upd (am_upd (am_upd (am_upd (am_upd D 322 ((105 + (3 * (D 322 3))) + 0).toNatClampNeg 0) 322 ((105 + (3 * (D 322 3))) + 1).toNatClampNeg ((am_upd D 322 ((105 + (3 * (D 322 3))) + 0).toNatClampNeg 0) 322 0)) 322 ((105 + (3 * (D 322 3))) + 2).toNatClampNeg 0) 322 3 (((am_upd (am_upd (am_upd D 322 ((105 + (3 * (D 322 3))) + 0).toNatClampNeg 0) 322 ((105 + (3 * (D 322 3))) + 1).toNatClampNeg ((am_upd D 322 ((105 + (3 * (D 322 3))) + 0).toNatClampNeg 0) 322 0)) 322 ((105 + (3 * (D 322 3))) + 2).toNatClampNeg 0) 322 3) + 1)) 322 2 (((am_upd (am_upd (am_upd (am_upd D 322 ((105 + (3 * (D 322 3))) + 0).toNatClampNeg 0) 322 ((105 + (3 * (D 322 3))) + 1).toNatClampNeg ((am_upd D 322 ((105 + (3 * (D 322 3))) + 0).toNatClampNeg 0) 322 0)) 322 ((105 + (3 * (D 322 3))) + 2).toNatClampNeg 0) 322 3 (((am_upd (am_upd (am_upd D 322 ((105 + (3 * (D 322 3))) + 0).toNatClampNeg 0) 322 ((105 + (3 * (D 322 3))) + 1).toNatClampNeg ((am_upd D 322 ((105 + (3 * (D 322 3))) + 0).toNatClampNeg 0) 322 0)) 322 ((105 + (3 * (D 322 3))) + 2).toNatClampNeg 0) 322 3) + 1)) 322 2) - 1)) 322 4 (((am_upd (am_upd (am_upd (am_upd (am_upd D 322 ((105 + (3 * (D 322 3))) + 0).toNatClampNeg 0) 322 ((105 + (3 * (D 322 3))) + 1).toNatClampNeg ((am_upd D 322 ((105 + (3 * (D 322 3))) + 0).toNatClampNeg 0) 322 0)) 322 ((105 + (3 * (D 322 3))) + 2).toNatClampNeg 0) 322 3 (((am_upd (am_upd (am_upd D 322 ((105 + (3 * (D 322 3))) + 0).toNatClampNeg 0) 322 ((105 + (3 * (D 322 3))) + 1).toNatClampNeg ((am_upd D 322 ((105 + (3 * (D 322 3))) + 0).toNatClampNeg 0) 322 0)) 322 ((105 + (3 * (D 322 3))) + 2).toNatClampNeg 0) 322 3) + 1)) 322 2 (((am_upd (am_upd (am_upd (am_upd D 322 ((105 + (3 * (D 322 3))) + 0).toNatClampNeg 0) 322 ((105 + (3 * (D 322 3))) + 1).toNatClampNeg ((am_upd D 322 ((105 + (3 * (D 322 3))) + 0).toNatClampNeg 0) 322 0)) 322 ((105 + (3 * (D 322 3))) + 2).toNatClampNeg 0) 322 3 (((am_upd (am_upd (am_upd D 322 ((105 + (3 * (D 322 3))) + 0).toNatClampNeg 0) 322 ((105 + (3 * (D 322 3))) + 1).toNatClampNeg ((am_upd D 322 ((105 + (3 * (D 322 3))) + 0).toNatClampNeg 0) 322 0)) 322 ((105 + (3 * (D 322 3))) + 2).toNatClampNeg 0) 322 3) + 1)) 322 2) - 1)) 322 4) - 1)) 322 7 (((am_upd (am_upd (am_upd (am_upd (am_upd (am_upd D 322 ((105 + (3 * (D 322 3))) + 0).toNatClampNeg 0) 322 ((105 + (3 * (D 322 3))) + 1).toNatClampNeg ((am_upd D 322 ((105 + (3 * (D 322 3))) + 0).toNatClampNeg 0) 322 0)) 322 ((105 + (3 * (D 322 3))) + 2).toNatClampNeg 0) 322 3 (((am_upd (am_upd (am_upd D 322 ((105 + (3 * (D 322 3))) + 0).toNatClampNeg 0) 322 ((105 + (3 * (D 322 3))) + 1).toNatClampNeg ((am_upd D 322 ((105 + (3 * (D 322 3))) + 0).toNatClampNeg 0) 322 0)) 322 ((105 + (3 * (D 322 3))) + 2).toNatClampNeg 0) 322 3) + 1)) 322 2 (((am_upd (am_upd (am_upd (am_upd D 322 ((105 + (3 * (D 322 3))) + 0).toNatClampNeg 0) 322 ((105 + (3 * (D 322 3))) + 1).toNatClampNeg ((am_upd D 322 ((105 + (3 * (D 322 3))) + 0).toNatClampNeg 0) 322 0)) 322 ((105 + (3 * (D 322 3))) + 2).toNatClampNeg 0) 322 3 (((am_upd (am_upd (am_upd D 322 ((105 + (3 * (D 322 3))) + 0).toNatClampNeg 0) 322 ((105 + (3 * (D 322 3))) + 1).toNatClampNeg ((am_upd D 322 ((105 + (3 * (D 322 3))) + 0).toNatClampNeg 0) 322 0)) 322 ((105 + (3 * (D 322 3))) + 2).toNatClampNeg 0) 322 3) + 1)) 322 2) - 1)) 322 4 (((am_upd (am_upd (am_upd (am_upd (am_upd D 322 ((105 + (3 * (D 322 3))) + 0).toNatClampNeg 0) 322 ((105 + (3 * (D 322 3))) + 1).toNatClampNeg ((am_upd D 322 ((105 + (3 * (D 322 3))) + 0).toNatClampNeg 0) 322 0)) 322 ((105 + (3 * (D 322 3))) + 2).toNatClampNeg 0) 322 3 (((am_upd (am_upd (am_upd D 322 ((105 + (3 * (D 322 3))) + 0).toNatClampNeg 0) 322 ((105 + (3 * (D 322 3))) + 1).toNatClampNeg ((am_upd D 322 ((105 + (3 * (D 322 3))) + 0).toNatClampNeg 0) 322 0)) 322 ((105 + (3 * (D 322 3))) + 2).toNatClampNeg 0) 322 3) + 1)) 322 2 (((am_upd (am_upd (am_upd (am_upd D 322 ((105 + (3 * (D 322 3))) + 0).toNatClampNeg 0) 322 ((105 + (3 * (D 322 3))) + 1).toNatClampNeg ((am_upd D 322 ((105 + (3 * (D 322 3))) + 0).toNatClampNeg 0) 322 0)) 322 ((105 + (3 * (D 322 3))) + 2).toNatClampNeg 0) 322 3 (((am_upd (am_upd (am_upd D 322 ((105 + (3 * (D 322 3))) + 0).toNatClampNeg 0) 322 ((105 + (3 * (D 322 3))) + 1).toNatClampNeg ((am_upd D 322 ((105 + (3 * (D 322 3))) + 0).toNatClampNeg 0) 322 0)) 322 ((105 + (3 * (D 322 3))) + 2).toNatClampNeg 0) 322 3) + 1)) 322 2) - 1)) 322 4) - 1)) 322 7) + 1))))))
set_option maxHeartbeats 2000000 in
theorem ev_86 {D : am_DD} {y : Int32} {Z : am_DD} (h : fn_86  D = some (y, Z)) : ay_mo 86 [.ref 321] D (.inl none) Z := by
  unfold fn_86 at h
  refine ay_m_of (L := [some (.ref 321), none]) rfl ?_
  refine ay_t_stk (pc := 0) (S' := [.int 105]) fe_86_0 rfl ?_
  refine ay_t_stk (pc := 2) (S' := [.int 3, .int 105]) fe_86_2 rfl ?_
  refine ay_t_loc (pc := 3) fe_86_3 rfl ?_
  refine ay_t_getR (pc := 4) (w := .ref 322) fe_86_4 at_321 (by decide +kernel) rfl ?_
  refine ay_t_stk (pc := 7) (S' := [.int 3, .ref 322, .int 3, .int 105]) fe_86_7 rfl ?_
  refine ay_t_ialoadk (pc := 8) (k := 3) fe_86_8 at_322 (by decide) (by decide) (by decide) ?_
  refine ay_t_stk (pc := 9) (S' := [.int (3 * (D 322 3)), .int 105]) fe_86_9 rfl ?_
  refine ay_t_stk (pc := 10) (S' := [.int (105 + (3 * (D 322 3)))]) fe_86_10 rfl ?_
  refine ay_t_loc (pc := 11) (L' := [some (.ref 321), some (.int (105 + (3 * (D 322 3))))]) fe_86_11 rfl ?_
  refine ay_t_loc (pc := 12) fe_86_12 rfl ?_
  refine ay_t_getR (pc := 13) (w := .ref 322) fe_86_13 at_321 (by decide +kernel) rfl ?_
  refine ay_t_loc (pc := 16) fe_86_16 rfl ?_
  refine ay_t_stk (pc := 17) (S' := [.int 0, .int (105 + (3 * (D 322 3))), .ref 322]) fe_86_17 rfl ?_
  refine ay_t_stk (pc := 18) (S' := [.int ((105 + (3 * (D 322 3))) + 0), .ref 322]) fe_86_18 rfl ?_
  refine ay_t_stk (pc := 19) (S' := [.int 0, .int ((105 + (3 * (D 322 3))) + 0), .ref 322]) fe_86_19 rfl ?_
  by_cases hb1 : ((105 + (3 * (D 322 3))) + 0) < 0 ∨ 405 ≤ ((105 + (3 * (D 322 3))) + 0).toNatClampNeg
  · rw [if_pos hb1] at h; cases h
  rw [if_neg hb1] at h
  refine ay_t_iastore (pc := 20) fe_86_20 at_322 hb1 ?_
  refine ay_t_loc (pc := 21) fe_86_21 rfl ?_
  refine ay_t_getR (pc := 22) (w := .ref 322) fe_86_22 at_321 (by decide +kernel) rfl ?_
  refine ay_t_loc (pc := 25) fe_86_25 rfl ?_
  refine ay_t_stk (pc := 26) (S' := [.int 1, .int (105 + (3 * (D 322 3))), .ref 322]) fe_86_26 rfl ?_
  refine ay_t_stk (pc := 27) (S' := [.int ((105 + (3 * (D 322 3))) + 1), .ref 322]) fe_86_27 rfl ?_
  refine ay_t_loc (pc := 28) fe_86_28 rfl ?_
  refine ay_t_getR (pc := 29) (w := .ref 322) fe_86_29 at_321 (by decide +kernel) rfl ?_
  refine ay_t_stk (pc := 32) (S' := [.int 0, .ref 322, .int ((105 + (3 * (D 322 3))) + 1), .ref 322]) fe_86_32 rfl ?_
  refine ay_t_ialoadk (pc := 33) (k := 0) fe_86_33 at_322 (by decide) (by decide) (by decide) ?_
  by_cases hb2 : ((105 + (3 * (D 322 3))) + 1) < 0 ∨ 405 ≤ ((105 + (3 * (D 322 3))) + 1).toNatClampNeg
  · rw [if_pos hb2] at h; cases h
  rw [if_neg hb2] at h
  refine ay_t_iastore (pc := 34) fe_86_34 at_322 hb2 ?_
  refine ay_t_loc (pc := 35) fe_86_35 rfl ?_
  refine ay_t_getR (pc := 36) (w := .ref 322) fe_86_36 at_321 (by decide +kernel) rfl ?_
  refine ay_t_loc (pc := 39) fe_86_39 rfl ?_
  refine ay_t_stk (pc := 40) (S' := [.int 2, .int (105 + (3 * (D 322 3))), .ref 322]) fe_86_40 rfl ?_
  refine ay_t_stk (pc := 41) (S' := [.int ((105 + (3 * (D 322 3))) + 2), .ref 322]) fe_86_41 rfl ?_
  refine ay_t_stk (pc := 42) (S' := [.int 0, .int ((105 + (3 * (D 322 3))) + 2), .ref 322]) fe_86_42 rfl ?_
  by_cases hb3 : ((105 + (3 * (D 322 3))) + 2) < 0 ∨ 405 ≤ ((105 + (3 * (D 322 3))) + 2).toNatClampNeg
  · rw [if_pos hb3] at h; cases h
  rw [if_neg hb3] at h
  refine ay_t_iastore (pc := 43) fe_86_43 at_322 hb3 ?_
  refine ay_t_loc (pc := 44) fe_86_44 rfl ?_
  refine ay_t_getR (pc := 45) (w := .ref 322) fe_86_45 at_321 (by decide +kernel) rfl ?_
  refine ay_t_stk (pc := 48) (S' := [.int 3, .ref 322]) fe_86_48 rfl ?_
  refine ay_t_stk (pc := 49) (S' := [.int 3, .ref 322, .int 3, .ref 322]) fe_86_49 rfl ?_
  refine ay_t_ialoadk (pc := 50) (k := 3) fe_86_50 at_322 (by decide) (by decide) (by decide) ?_
  refine ay_t_stk (pc := 51) (S' := [.int 1, .int ((am_upd (am_upd (am_upd D 322 ((105 + (3 * (D 322 3))) + 0).toNatClampNeg 0) 322 ((105 + (3 * (D 322 3))) + 1).toNatClampNeg ((am_upd D 322 ((105 + (3 * (D 322 3))) + 0).toNatClampNeg 0) 322 0)) 322 ((105 + (3 * (D 322 3))) + 2).toNatClampNeg 0) 322 3), .int 3, .ref 322]) fe_86_51 rfl ?_
  refine ay_t_stk (pc := 52) (S' := [.int (((am_upd (am_upd (am_upd D 322 ((105 + (3 * (D 322 3))) + 0).toNatClampNeg 0) 322 ((105 + (3 * (D 322 3))) + 1).toNatClampNeg ((am_upd D 322 ((105 + (3 * (D 322 3))) + 0).toNatClampNeg 0) 322 0)) 322 ((105 + (3 * (D 322 3))) + 2).toNatClampNeg 0) 322 3) + 1), .int 3, .ref 322]) fe_86_52 rfl ?_
  refine ay_t_iastorek (pc := 53) (k := 3) fe_86_53 at_322 (by decide) (by decide) ?_
  refine ay_t_loc (pc := 54) fe_86_54 rfl ?_
  refine ay_t_getR (pc := 55) (w := .ref 322) fe_86_55 at_321 (by decide +kernel) rfl ?_
  refine ay_t_stk (pc := 58) (S' := [.int 2, .ref 322]) fe_86_58 rfl ?_
  refine ay_t_stk (pc := 59) (S' := [.int 2, .ref 322, .int 2, .ref 322]) fe_86_59 rfl ?_
  refine ay_t_ialoadk (pc := 60) (k := 2) fe_86_60 at_322 (by decide) (by decide) (by decide) ?_
  refine ay_t_stk (pc := 61) (S' := [.int 1, .int ((am_upd (am_upd (am_upd (am_upd D 322 ((105 + (3 * (D 322 3))) + 0).toNatClampNeg 0) 322 ((105 + (3 * (D 322 3))) + 1).toNatClampNeg ((am_upd D 322 ((105 + (3 * (D 322 3))) + 0).toNatClampNeg 0) 322 0)) 322 ((105 + (3 * (D 322 3))) + 2).toNatClampNeg 0) 322 3 (((am_upd (am_upd (am_upd D 322 ((105 + (3 * (D 322 3))) + 0).toNatClampNeg 0) 322 ((105 + (3 * (D 322 3))) + 1).toNatClampNeg ((am_upd D 322 ((105 + (3 * (D 322 3))) + 0).toNatClampNeg 0) 322 0)) 322 ((105 + (3 * (D 322 3))) + 2).toNatClampNeg 0) 322 3) + 1)) 322 2), .int 2, .ref 322]) fe_86_61 rfl ?_
  refine ay_t_stk (pc := 62) (S' := [.int (((am_upd (am_upd (am_upd (am_upd D 322 ((105 + (3 * (D 322 3))) + 0).toNatClampNeg 0) 322 ((105 + (3 * (D 322 3))) + 1).toNatClampNeg ((am_upd D 322 ((105 + (3 * (D 322 3))) + 0).toNatClampNeg 0) 322 0)) 322 ((105 + (3 * (D 322 3))) + 2).toNatClampNeg 0) 322 3 (((am_upd (am_upd (am_upd D 322 ((105 + (3 * (D 322 3))) + 0).toNatClampNeg 0) 322 ((105 + (3 * (D 322 3))) + 1).toNatClampNeg ((am_upd D 322 ((105 + (3 * (D 322 3))) + 0).toNatClampNeg 0) 322 0)) 322 ((105 + (3 * (D 322 3))) + 2).toNatClampNeg 0) 322 3) + 1)) 322 2) - 1), .int 2, .ref 322]) fe_86_62 rfl ?_
  refine ay_t_iastorek (pc := 63) (k := 2) fe_86_63 at_322 (by decide) (by decide) ?_
  refine ay_t_loc (pc := 64) fe_86_64 rfl ?_
  refine ay_t_getR (pc := 65) (w := .ref 322) fe_86_65 at_321 (by decide +kernel) rfl ?_
  refine ay_t_stk (pc := 68) (S' := [.int 4, .ref 322]) fe_86_68 rfl ?_
  refine ay_t_stk (pc := 69) (S' := [.int 4, .ref 322, .int 4, .ref 322]) fe_86_69 rfl ?_
  refine ay_t_ialoadk (pc := 70) (k := 4) fe_86_70 at_322 (by decide) (by decide) (by decide) ?_
  refine ay_t_stk (pc := 71) (S' := [.int 1, .int ((am_upd (am_upd (am_upd (am_upd (am_upd D 322 ((105 + (3 * (D 322 3))) + 0).toNatClampNeg 0) 322 ((105 + (3 * (D 322 3))) + 1).toNatClampNeg ((am_upd D 322 ((105 + (3 * (D 322 3))) + 0).toNatClampNeg 0) 322 0)) 322 ((105 + (3 * (D 322 3))) + 2).toNatClampNeg 0) 322 3 (((am_upd (am_upd (am_upd D 322 ((105 + (3 * (D 322 3))) + 0).toNatClampNeg 0) 322 ((105 + (3 * (D 322 3))) + 1).toNatClampNeg ((am_upd D 322 ((105 + (3 * (D 322 3))) + 0).toNatClampNeg 0) 322 0)) 322 ((105 + (3 * (D 322 3))) + 2).toNatClampNeg 0) 322 3) + 1)) 322 2 (((am_upd (am_upd (am_upd (am_upd D 322 ((105 + (3 * (D 322 3))) + 0).toNatClampNeg 0) 322 ((105 + (3 * (D 322 3))) + 1).toNatClampNeg ((am_upd D 322 ((105 + (3 * (D 322 3))) + 0).toNatClampNeg 0) 322 0)) 322 ((105 + (3 * (D 322 3))) + 2).toNatClampNeg 0) 322 3 (((am_upd (am_upd (am_upd D 322 ((105 + (3 * (D 322 3))) + 0).toNatClampNeg 0) 322 ((105 + (3 * (D 322 3))) + 1).toNatClampNeg ((am_upd D 322 ((105 + (3 * (D 322 3))) + 0).toNatClampNeg 0) 322 0)) 322 ((105 + (3 * (D 322 3))) + 2).toNatClampNeg 0) 322 3) + 1)) 322 2) - 1)) 322 4), .int 4, .ref 322]) fe_86_71 rfl ?_
  refine ay_t_stk (pc := 72) (S' := [.int (((am_upd (am_upd (am_upd (am_upd (am_upd D 322 ((105 + (3 * (D 322 3))) + 0).toNatClampNeg 0) 322 ((105 + (3 * (D 322 3))) + 1).toNatClampNeg ((am_upd D 322 ((105 + (3 * (D 322 3))) + 0).toNatClampNeg 0) 322 0)) 322 ((105 + (3 * (D 322 3))) + 2).toNatClampNeg 0) 322 3 (((am_upd (am_upd (am_upd D 322 ((105 + (3 * (D 322 3))) + 0).toNatClampNeg 0) 322 ((105 + (3 * (D 322 3))) + 1).toNatClampNeg ((am_upd D 322 ((105 + (3 * (D 322 3))) + 0).toNatClampNeg 0) 322 0)) 322 ((105 + (3 * (D 322 3))) + 2).toNatClampNeg 0) 322 3) + 1)) 322 2 (((am_upd (am_upd (am_upd (am_upd D 322 ((105 + (3 * (D 322 3))) + 0).toNatClampNeg 0) 322 ((105 + (3 * (D 322 3))) + 1).toNatClampNeg ((am_upd D 322 ((105 + (3 * (D 322 3))) + 0).toNatClampNeg 0) 322 0)) 322 ((105 + (3 * (D 322 3))) + 2).toNatClampNeg 0) 322 3 (((am_upd (am_upd (am_upd D 322 ((105 + (3 * (D 322 3))) + 0).toNatClampNeg 0) 322 ((105 + (3 * (D 322 3))) + 1).toNatClampNeg ((am_upd D 322 ((105 + (3 * (D 322 3))) + 0).toNatClampNeg 0) 322 0)) 322 ((105 + (3 * (D 322 3))) + 2).toNatClampNeg 0) 322 3) + 1)) 322 2) - 1)) 322 4) - 1), .int 4, .ref 322]) fe_86_72 rfl ?_
  refine ay_t_iastorek (pc := 73) (k := 4) fe_86_73 at_322 (by decide) (by decide) ?_
  refine ay_t_loc (pc := 74) fe_86_74 rfl ?_
  refine ay_t_getR (pc := 75) (w := .ref 322) fe_86_75 at_321 (by decide +kernel) rfl ?_
  refine ay_t_stk (pc := 78) (S' := [.int 7, .ref 322]) fe_86_78 rfl ?_
  refine ay_t_stk (pc := 80) (S' := [.int 7, .ref 322, .int 7, .ref 322]) fe_86_80 rfl ?_
  refine ay_t_ialoadk (pc := 81) (k := 7) fe_86_81 at_322 (by decide) (by decide) (by decide) ?_
  refine ay_t_stk (pc := 82) (S' := [.int 1, .int ((am_upd (am_upd (am_upd (am_upd (am_upd (am_upd D 322 ((105 + (3 * (D 322 3))) + 0).toNatClampNeg 0) 322 ((105 + (3 * (D 322 3))) + 1).toNatClampNeg ((am_upd D 322 ((105 + (3 * (D 322 3))) + 0).toNatClampNeg 0) 322 0)) 322 ((105 + (3 * (D 322 3))) + 2).toNatClampNeg 0) 322 3 (((am_upd (am_upd (am_upd D 322 ((105 + (3 * (D 322 3))) + 0).toNatClampNeg 0) 322 ((105 + (3 * (D 322 3))) + 1).toNatClampNeg ((am_upd D 322 ((105 + (3 * (D 322 3))) + 0).toNatClampNeg 0) 322 0)) 322 ((105 + (3 * (D 322 3))) + 2).toNatClampNeg 0) 322 3) + 1)) 322 2 (((am_upd (am_upd (am_upd (am_upd D 322 ((105 + (3 * (D 322 3))) + 0).toNatClampNeg 0) 322 ((105 + (3 * (D 322 3))) + 1).toNatClampNeg ((am_upd D 322 ((105 + (3 * (D 322 3))) + 0).toNatClampNeg 0) 322 0)) 322 ((105 + (3 * (D 322 3))) + 2).toNatClampNeg 0) 322 3 (((am_upd (am_upd (am_upd D 322 ((105 + (3 * (D 322 3))) + 0).toNatClampNeg 0) 322 ((105 + (3 * (D 322 3))) + 1).toNatClampNeg ((am_upd D 322 ((105 + (3 * (D 322 3))) + 0).toNatClampNeg 0) 322 0)) 322 ((105 + (3 * (D 322 3))) + 2).toNatClampNeg 0) 322 3) + 1)) 322 2) - 1)) 322 4 (((am_upd (am_upd (am_upd (am_upd (am_upd D 322 ((105 + (3 * (D 322 3))) + 0).toNatClampNeg 0) 322 ((105 + (3 * (D 322 3))) + 1).toNatClampNeg ((am_upd D 322 ((105 + (3 * (D 322 3))) + 0).toNatClampNeg 0) 322 0)) 322 ((105 + (3 * (D 322 3))) + 2).toNatClampNeg 0) 322 3 (((am_upd (am_upd (am_upd D 322 ((105 + (3 * (D 322 3))) + 0).toNatClampNeg 0) 322 ((105 + (3 * (D 322 3))) + 1).toNatClampNeg ((am_upd D 322 ((105 + (3 * (D 322 3))) + 0).toNatClampNeg 0) 322 0)) 322 ((105 + (3 * (D 322 3))) + 2).toNatClampNeg 0) 322 3) + 1)) 322 2 (((am_upd (am_upd (am_upd (am_upd D 322 ((105 + (3 * (D 322 3))) + 0).toNatClampNeg 0) 322 ((105 + (3 * (D 322 3))) + 1).toNatClampNeg ((am_upd D 322 ((105 + (3 * (D 322 3))) + 0).toNatClampNeg 0) 322 0)) 322 ((105 + (3 * (D 322 3))) + 2).toNatClampNeg 0) 322 3 (((am_upd (am_upd (am_upd D 322 ((105 + (3 * (D 322 3))) + 0).toNatClampNeg 0) 322 ((105 + (3 * (D 322 3))) + 1).toNatClampNeg ((am_upd D 322 ((105 + (3 * (D 322 3))) + 0).toNatClampNeg 0) 322 0)) 322 ((105 + (3 * (D 322 3))) + 2).toNatClampNeg 0) 322 3) + 1)) 322 2) - 1)) 322 4) - 1)) 322 7), .int 7, .ref 322]) fe_86_82 rfl ?_
  refine ay_t_stk (pc := 83) (S' := [.int (((am_upd (am_upd (am_upd (am_upd (am_upd (am_upd D 322 ((105 + (3 * (D 322 3))) + 0).toNatClampNeg 0) 322 ((105 + (3 * (D 322 3))) + 1).toNatClampNeg ((am_upd D 322 ((105 + (3 * (D 322 3))) + 0).toNatClampNeg 0) 322 0)) 322 ((105 + (3 * (D 322 3))) + 2).toNatClampNeg 0) 322 3 (((am_upd (am_upd (am_upd D 322 ((105 + (3 * (D 322 3))) + 0).toNatClampNeg 0) 322 ((105 + (3 * (D 322 3))) + 1).toNatClampNeg ((am_upd D 322 ((105 + (3 * (D 322 3))) + 0).toNatClampNeg 0) 322 0)) 322 ((105 + (3 * (D 322 3))) + 2).toNatClampNeg 0) 322 3) + 1)) 322 2 (((am_upd (am_upd (am_upd (am_upd D 322 ((105 + (3 * (D 322 3))) + 0).toNatClampNeg 0) 322 ((105 + (3 * (D 322 3))) + 1).toNatClampNeg ((am_upd D 322 ((105 + (3 * (D 322 3))) + 0).toNatClampNeg 0) 322 0)) 322 ((105 + (3 * (D 322 3))) + 2).toNatClampNeg 0) 322 3 (((am_upd (am_upd (am_upd D 322 ((105 + (3 * (D 322 3))) + 0).toNatClampNeg 0) 322 ((105 + (3 * (D 322 3))) + 1).toNatClampNeg ((am_upd D 322 ((105 + (3 * (D 322 3))) + 0).toNatClampNeg 0) 322 0)) 322 ((105 + (3 * (D 322 3))) + 2).toNatClampNeg 0) 322 3) + 1)) 322 2) - 1)) 322 4 (((am_upd (am_upd (am_upd (am_upd (am_upd D 322 ((105 + (3 * (D 322 3))) + 0).toNatClampNeg 0) 322 ((105 + (3 * (D 322 3))) + 1).toNatClampNeg ((am_upd D 322 ((105 + (3 * (D 322 3))) + 0).toNatClampNeg 0) 322 0)) 322 ((105 + (3 * (D 322 3))) + 2).toNatClampNeg 0) 322 3 (((am_upd (am_upd (am_upd D 322 ((105 + (3 * (D 322 3))) + 0).toNatClampNeg 0) 322 ((105 + (3 * (D 322 3))) + 1).toNatClampNeg ((am_upd D 322 ((105 + (3 * (D 322 3))) + 0).toNatClampNeg 0) 322 0)) 322 ((105 + (3 * (D 322 3))) + 2).toNatClampNeg 0) 322 3) + 1)) 322 2 (((am_upd (am_upd (am_upd (am_upd D 322 ((105 + (3 * (D 322 3))) + 0).toNatClampNeg 0) 322 ((105 + (3 * (D 322 3))) + 1).toNatClampNeg ((am_upd D 322 ((105 + (3 * (D 322 3))) + 0).toNatClampNeg 0) 322 0)) 322 ((105 + (3 * (D 322 3))) + 2).toNatClampNeg 0) 322 3 (((am_upd (am_upd (am_upd D 322 ((105 + (3 * (D 322 3))) + 0).toNatClampNeg 0) 322 ((105 + (3 * (D 322 3))) + 1).toNatClampNeg ((am_upd D 322 ((105 + (3 * (D 322 3))) + 0).toNatClampNeg 0) 322 0)) 322 ((105 + (3 * (D 322 3))) + 2).toNatClampNeg 0) 322 3) + 1)) 322 2) - 1)) 322 4) - 1)) 322 7) + 1), .int 7, .ref 322]) fe_86_83 rfl ?_
  refine ay_t_iastorek (pc := 84) (k := 7) fe_86_84 at_322 (by decide) (by decide) ?_
  cases h
  exact ay_t_vret fe_86_85 rfl
def fn_87_4 : Nat → Int32 → Int32 → am_DD → Option (Int32 × am_DD)
  | 0, _, _, _ => none
  | n + 1, x1, x2, D => (if 5 ≤ x2 then (if (95 + x1) < 0 ∨ 405 ≤ (95 + x1).toNatClampNeg then none else (if (D 322 (95 + x1).toNatClampNeg) < (D 322 6) then some (0, D) else (if (95 + x1) < 0 ∨ 405 ≤ (95 + x1).toNatClampNeg then none else (if (95 + x1) < 0 ∨ 405 ≤ (95 + x1).toNatClampNeg then none else some (0, (am_upd (am_upd (am_upd D 322 (95 + x1).toNatClampNeg ((D 322 (95 + x1).toNatClampNeg) - 1)) 322 2 (((am_upd D 322 (95 + x1).toNatClampNeg ((D 322 (95 + x1).toNatClampNeg) - 1)) 322 2) + 1)) 322 8 (((am_upd (am_upd D 322 (95 + x1).toNatClampNeg ((D 322 (95 + x1).toNatClampNeg) - 1)) 322 2 (((am_upd D 322 (95 + x1).toNatClampNeg ((D 322 (95 + x1).toNatClampNeg) - 1)) 322 2) + 1)) 322 8) + 1))))))) else (if (95 + x2) < 0 ∨ 405 ≤ (95 + x2).toNatClampNeg then none else (if (95 + x1) < 0 ∨ 405 ≤ (95 + x1).toNatClampNeg then none else (if (D 322 (95 + x2).toNatClampNeg) ≤ (D 322 (95 + x1).toNatClampNeg) then fn_87_4 n x1 (x2 + 1) D else fn_87_4 n x2 (x2 + 1) D))))
set_option maxHeartbeats 2000000 in
theorem ev_87_4 : ∀ (n : Nat) (x1 x2 : Int32) (D : am_DD) (y : Int32) (Z : am_DD), fn_87_4 n x1 x2 D = some (y, Z) → ay_to 87 4 [some (.ref 321), some (.int x1), some (.int x2)] [] D (.inl none) Z := by
  intro n
  induction n with
  | zero => intro x1 x2 D y Z h; cases h
  | succ n ih =>
    intro x1 x2 D y Z h
    rw [fn_87_4] at h
    refine ay_t_loc (pc := 4) fe_87_4 rfl ?_
    refine ay_t_stk (pc := 5) (S' := [.int 5, .int x2]) fe_87_5 rfl ?_
    by_cases hc1 : 5 ≤ x2
    · rw [if_pos hc1] at h
      refine ay_t_pos (pc := 6) hc1 fe_87_6 rfl ?_
      refine ay_t_loc (pc := 42) fe_87_42 rfl ?_
      refine ay_t_getR (pc := 43) (w := .ref 322) fe_87_43 at_321 (by decide +kernel) rfl ?_
      refine ay_t_stk (pc := 46) (S' := [.int 95, .ref 322]) fe_87_46 rfl ?_
      refine ay_t_loc (pc := 48) fe_87_48 rfl ?_
      refine ay_t_stk (pc := 49) (S' := [.int (95 + x1), .ref 322]) fe_87_49 rfl ?_
      by_cases hb2 : (95 + x1) < 0 ∨ 405 ≤ (95 + x1).toNatClampNeg
      · rw [if_pos hb2] at h; cases h
      rw [if_neg hb2] at h
      refine ay_t_iaload (pc := 50) fe_87_50 at_322 (by decide) hb2 ?_
      refine ay_t_loc (pc := 51) fe_87_51 rfl ?_
      refine ay_t_getR (pc := 52) (w := .ref 322) fe_87_52 at_321 (by decide +kernel) rfl ?_
      refine ay_t_stk (pc := 55) (S' := [.int 6, .ref 322, .int (D 322 (95 + x1).toNatClampNeg)]) fe_87_55 rfl ?_
      refine ay_t_ialoadk (pc := 57) (k := 6) fe_87_57 at_322 (by decide) (by decide) (by decide) ?_
      by_cases hc3 : (D 322 (95 + x1).toNatClampNeg) < (D 322 6)
      · rw [if_pos hc3] at h
        refine ay_t_pos (pc := 58) hc3 fe_87_58 rfl ?_
        cases h
        exact ay_t_vret fe_87_95 rfl
      · rw [if_neg hc3] at h
        refine ay_t_neg (pc := 58) hc3 fe_87_58 rfl ?_
        refine ay_t_loc (pc := 61) fe_87_61 rfl ?_
        refine ay_t_getR (pc := 62) (w := .ref 322) fe_87_62 at_321 (by decide +kernel) rfl ?_
        refine ay_t_stk (pc := 65) (S' := [.int 95, .ref 322]) fe_87_65 rfl ?_
        refine ay_t_loc (pc := 67) fe_87_67 rfl ?_
        refine ay_t_stk (pc := 68) (S' := [.int (95 + x1), .ref 322]) fe_87_68 rfl ?_
        refine ay_t_stk (pc := 69) (S' := [.int (95 + x1), .ref 322, .int (95 + x1), .ref 322]) fe_87_69 rfl ?_
        by_cases hb4 : (95 + x1) < 0 ∨ 405 ≤ (95 + x1).toNatClampNeg
        · rw [if_pos hb4] at h; cases h
        rw [if_neg hb4] at h
        refine ay_t_iaload (pc := 70) fe_87_70 at_322 (by decide) hb4 ?_
        refine ay_t_stk (pc := 71) (S' := [.int 1, .int (D 322 (95 + x1).toNatClampNeg), .int (95 + x1), .ref 322]) fe_87_71 rfl ?_
        refine ay_t_stk (pc := 72) (S' := [.int ((D 322 (95 + x1).toNatClampNeg) - 1), .int (95 + x1), .ref 322]) fe_87_72 rfl ?_
        by_cases hb5 : (95 + x1) < 0 ∨ 405 ≤ (95 + x1).toNatClampNeg
        · rw [if_pos hb5] at h; cases h
        rw [if_neg hb5] at h
        refine ay_t_iastore (pc := 73) fe_87_73 at_322 hb5 ?_
        refine ay_t_loc (pc := 74) fe_87_74 rfl ?_
        refine ay_t_getR (pc := 75) (w := .ref 322) fe_87_75 at_321 (by decide +kernel) rfl ?_
        refine ay_t_stk (pc := 78) (S' := [.int 2, .ref 322]) fe_87_78 rfl ?_
        refine ay_t_stk (pc := 79) (S' := [.int 2, .ref 322, .int 2, .ref 322]) fe_87_79 rfl ?_
        refine ay_t_ialoadk (pc := 80) (k := 2) fe_87_80 at_322 (by decide) (by decide) (by decide) ?_
        refine ay_t_stk (pc := 81) (S' := [.int 1, .int ((am_upd D 322 (95 + x1).toNatClampNeg ((D 322 (95 + x1).toNatClampNeg) - 1)) 322 2), .int 2, .ref 322]) fe_87_81 rfl ?_
        refine ay_t_stk (pc := 82) (S' := [.int (((am_upd D 322 (95 + x1).toNatClampNeg ((D 322 (95 + x1).toNatClampNeg) - 1)) 322 2) + 1), .int 2, .ref 322]) fe_87_82 rfl ?_
        refine ay_t_iastorek (pc := 83) (k := 2) fe_87_83 at_322 (by decide) (by decide) ?_
        refine ay_t_loc (pc := 84) fe_87_84 rfl ?_
        refine ay_t_getR (pc := 85) (w := .ref 322) fe_87_85 at_321 (by decide +kernel) rfl ?_
        refine ay_t_stk (pc := 88) (S' := [.int 8, .ref 322]) fe_87_88 rfl ?_
        refine ay_t_stk (pc := 90) (S' := [.int 8, .ref 322, .int 8, .ref 322]) fe_87_90 rfl ?_
        refine ay_t_ialoadk (pc := 91) (k := 8) fe_87_91 at_322 (by decide) (by decide) (by decide) ?_
        refine ay_t_stk (pc := 92) (S' := [.int 1, .int ((am_upd (am_upd D 322 (95 + x1).toNatClampNeg ((D 322 (95 + x1).toNatClampNeg) - 1)) 322 2 (((am_upd D 322 (95 + x1).toNatClampNeg ((D 322 (95 + x1).toNatClampNeg) - 1)) 322 2) + 1)) 322 8), .int 8, .ref 322]) fe_87_92 rfl ?_
        refine ay_t_stk (pc := 93) (S' := [.int (((am_upd (am_upd D 322 (95 + x1).toNatClampNeg ((D 322 (95 + x1).toNatClampNeg) - 1)) 322 2 (((am_upd D 322 (95 + x1).toNatClampNeg ((D 322 (95 + x1).toNatClampNeg) - 1)) 322 2) + 1)) 322 8) + 1), .int 8, .ref 322]) fe_87_93 rfl ?_
        refine ay_t_iastorek (pc := 94) (k := 8) fe_87_94 at_322 (by decide) (by decide) ?_
        cases h
        exact ay_t_vret fe_87_95 rfl
    · rw [if_neg hc1] at h
      refine ay_t_neg (pc := 6) hc1 fe_87_6 rfl ?_
      refine ay_t_loc (pc := 9) fe_87_9 rfl ?_
      refine ay_t_getR (pc := 10) (w := .ref 322) fe_87_10 at_321 (by decide +kernel) rfl ?_
      refine ay_t_stk (pc := 13) (S' := [.int 95, .ref 322]) fe_87_13 rfl ?_
      refine ay_t_loc (pc := 15) fe_87_15 rfl ?_
      refine ay_t_stk (pc := 16) (S' := [.int (95 + x2), .ref 322]) fe_87_16 rfl ?_
      by_cases hb6 : (95 + x2) < 0 ∨ 405 ≤ (95 + x2).toNatClampNeg
      · rw [if_pos hb6] at h; cases h
      rw [if_neg hb6] at h
      refine ay_t_iaload (pc := 17) fe_87_17 at_322 (by decide) hb6 ?_
      refine ay_t_loc (pc := 18) fe_87_18 rfl ?_
      refine ay_t_getR (pc := 19) (w := .ref 322) fe_87_19 at_321 (by decide +kernel) rfl ?_
      refine ay_t_stk (pc := 22) (S' := [.int 95, .ref 322, .int (D 322 (95 + x2).toNatClampNeg)]) fe_87_22 rfl ?_
      refine ay_t_loc (pc := 24) fe_87_24 rfl ?_
      refine ay_t_stk (pc := 25) (S' := [.int (95 + x1), .ref 322, .int (D 322 (95 + x2).toNatClampNeg)]) fe_87_25 rfl ?_
      by_cases hb7 : (95 + x1) < 0 ∨ 405 ≤ (95 + x1).toNatClampNeg
      · rw [if_pos hb7] at h; cases h
      rw [if_neg hb7] at h
      refine ay_t_iaload (pc := 26) fe_87_26 at_322 (by decide) hb7 ?_
      by_cases hc8 : (D 322 (95 + x2).toNatClampNeg) ≤ (D 322 (95 + x1).toNatClampNeg)
      · rw [if_pos hc8] at h
        refine ay_t_pos (pc := 27) hc8 fe_87_27 rfl ?_
        refine ay_t_loc (pc := 34) fe_87_34 rfl ?_
        refine ay_t_loc (pc := 35) (L' := [some (.ref 321), some (.int x1), some (.int x2)]) fe_87_35 rfl ?_
        refine ay_t_loc (pc := 36) (L' := [some (.ref 321), some (.int x1), some (.int (x2 + 1))]) fe_87_36 rfl ?_
        refine ay_t_br (pc := 39) (pc' := 4) fe_87_39 rfl ?_
        exact ay_t_less (ay_ls (ay_ls (ay_ls ay_l0))) (ih _ _ _ _ _ h)
      · rw [if_neg hc8] at h
        refine ay_t_neg (pc := 27) hc8 fe_87_27 rfl ?_
        refine ay_t_loc (pc := 30) fe_87_30 rfl ?_
        refine ay_t_br (pc := 31) (pc' := 35) fe_87_31 rfl ?_
        refine ay_t_loc (pc := 35) (L' := [some (.ref 321), some (.int x2), some (.int x2)]) fe_87_35 rfl ?_
        refine ay_t_loc (pc := 36) (L' := [some (.ref 321), some (.int x2), some (.int (x2 + 1))]) fe_87_36 rfl ?_
        refine ay_t_br (pc := 39) (pc' := 4) fe_87_39 rfl ?_
        exact ay_t_less (ay_ls (ay_ls (ay_ls ay_l0))) (ih _ _ _ _ _ h)
def fn_87 (D : am_DD) : Option (Int32 × am_DD) := fn_87_4 am_F 0 1 D
set_option maxHeartbeats 2000000 in
theorem ev_87 {D : am_DD} {y : Int32} {Z : am_DD} (h : fn_87  D = some (y, Z)) : ay_mo 87 [.ref 321] D (.inl none) Z := by
  unfold fn_87 at h
  refine ay_m_of (L := [some (.ref 321), none, none]) rfl ?_
  refine ay_t_stk (pc := 0) (S' := [.int 0]) fe_87_0 rfl ?_
  refine ay_t_loc (pc := 1) (L' := [some (.ref 321), some (.int 0), none]) fe_87_1 rfl ?_
  refine ay_t_stk (pc := 2) (S' := [.int 1]) fe_87_2 rfl ?_
  refine ay_t_loc (pc := 3) (L' := [some (.ref 321), some (.int 0), some (.int 1)]) fe_87_3 rfl ?_
  exact ay_t_less (ay_ls (ay_ls (ay_ls ay_l0))) (ev_87_4 _ _ _ _ _ _ h)
def fn_88_12 : Nat → Int32 → am_DD → Option (Int32 × am_DD)
  | 0, _, _ => none
  | n + 1, x1, D => (if (D 322 3) ≤ x1 then (if (D 322 5) = 0 then none else (if ¬ ((D 322 0) - (D 322 0) / (D 322 5) * (D 322 5)) = 0 then (match fn_87 D with | none => none | some (y4, D5) => some (0, D5)) else (if (D 322 4) ≤ 0 then (match fn_87 D with | none => none | some (y8, D9) => some (0, D9)) else (if (D 322 2) ≤ 0 then (match fn_87 D with | none => none | some (y12, D13) => some (0, D13)) else (if (D 322 1) ≤ 0 then (match fn_87 D with | none => none | some (y16, D17) => some (0, D17)) else (match fn_86 D with | none => none | some (y19, D20) => (match fn_87 D20 with | none => none | some (y22, D23) => some (0, D23)))))))) else (match fn_84 x1 D with | none => none | some (y25, D26) => (if y25 < 20 then fn_88_12 n (x1 + 1) D26 else (if ((95 + y25) - 20) < 0 ∨ 405 ≤ ((95 + y25) - 20).toNatClampNeg then none else (if ((95 + y25) - 20) < 0 ∨ 405 ≤ ((95 + y25) - 20).toNatClampNeg then none else (if ((100 + y25) - 20) < 0 ∨ 405 ≤ ((100 + y25) - 20).toNatClampNeg then none else (if ((100 + y25) - 20) < 0 ∨ 405 ≤ ((100 + y25) - 20).toNatClampNeg then none else (match fn_85 x1 (am_upd (am_upd D26 322 ((95 + y25) - 20).toNatClampNeg ((D26 322 ((95 + y25) - 20).toNatClampNeg) + 1)) 322 ((100 + y25) - 20).toNatClampNeg (((am_upd D26 322 ((95 + y25) - 20).toNatClampNeg ((D26 322 ((95 + y25) - 20).toNatClampNeg) + 1)) 322 ((100 + y25) - 20).toNatClampNeg) + 1)) with | none => none | some (y33, D34) => fn_88_12 n x1 D34))))))))
set_option maxHeartbeats 2000000 in
theorem ev_88_12 : ∀ (n : Nat) (x1 : Int32) (D : am_DD) (y : Int32) (Z : am_DD), fn_88_12 n x1 D = some (y, Z) → ay_to 88 12 [some (.ref 321), some (.int x1), none] [] D (.inl none) Z := by
  intro n
  induction n with
  | zero => intro x1 D y Z h; cases h
  | succ n ih =>
    intro x1 D y Z h
    rw [fn_88_12] at h
    refine ay_t_loc (pc := 12) fe_88_12 rfl ?_
    refine ay_t_loc (pc := 13) fe_88_13 rfl ?_
    refine ay_t_getR (pc := 14) (w := .ref 322) fe_88_14 at_321 (by decide +kernel) rfl ?_
    refine ay_t_stk (pc := 17) (S' := [.int 3, .ref 322, .int x1]) fe_88_17 rfl ?_
    refine ay_t_ialoadk (pc := 18) (k := 3) fe_88_18 at_322 (by decide) (by decide) (by decide) ?_
    by_cases hc1 : (D 322 3) ≤ x1
    · rw [if_pos hc1] at h
      refine ay_t_pos (pc := 19) hc1 fe_88_19 rfl ?_
      refine ay_t_loc (pc := 80) fe_88_80 rfl ?_
      refine ay_t_getR (pc := 81) (w := .ref 322) fe_88_81 at_321 (by decide +kernel) rfl ?_
      refine ay_t_stk (pc := 84) (S' := [.int 0, .ref 322]) fe_88_84 rfl ?_
      refine ay_t_ialoadk (pc := 85) (k := 0) fe_88_85 at_322 (by decide) (by decide) (by decide) ?_
      refine ay_t_loc (pc := 86) fe_88_86 rfl ?_
      refine ay_t_getR (pc := 87) (w := .ref 322) fe_88_87 at_321 (by decide +kernel) rfl ?_
      refine ay_t_stk (pc := 90) (S' := [.int 5, .ref 322, .int (D 322 0)]) fe_88_90 rfl ?_
      refine ay_t_ialoadk (pc := 91) (k := 5) fe_88_91 at_322 (by decide) (by decide) (by decide) ?_
      by_cases hz2 : (D 322 5) = 0
      · rw [if_pos hz2] at h; cases h
      rw [if_neg hz2] at h
      refine ay_t_stk (pc := 92) (S' := [.int ((D 322 0) - (D 322 0) / (D 322 5) * (D 322 5))]) fe_88_92 (ay_irem hz2) ?_
      by_cases hc3 : ¬ ((D 322 0) - (D 322 0) / (D 322 5) * (D 322 5)) = 0
      · rw [if_pos hc3] at h
        refine ay_t_pos (pc := 93) hc3 fe_88_93 rfl ?_
        refine ay_t_loc (pc := 127) fe_88_127 rfl ?_
        cases hk6 : fn_87 D with
        | none => rw [hk6] at h; cases h
        | some z =>
          obtain ⟨y4, D5⟩ := z
          rw [hk6] at h
          dsimp only at h
          refine ay_t_call (pc := 128) (w := none) fe_88_128 (ay_args [.ref 321] [] rfl rfl (Nat.le_of_ble_eq_true rfl) (Nat.le_of_ble_eq_true rfl)) (ay_rcvV at_321 rfl) (ev_87 hk6) ?_
          cases h
          exact ay_t_vret fe_88_131 rfl
      · rw [if_neg hc3] at h
        refine ay_t_neg (pc := 93) hc3 fe_88_93 rfl ?_
        refine ay_t_loc (pc := 96) fe_88_96 rfl ?_
        refine ay_t_getR (pc := 97) (w := .ref 322) fe_88_97 at_321 (by decide +kernel) rfl ?_
        refine ay_t_stk (pc := 100) (S' := [.int 4, .ref 322]) fe_88_100 rfl ?_
        refine ay_t_ialoadk (pc := 101) (k := 4) fe_88_101 at_322 (by decide) (by decide) (by decide) ?_
        by_cases hc7 : (D 322 4) ≤ 0
        · rw [if_pos hc7] at h
          refine ay_t_pos (pc := 102) hc7 fe_88_102 rfl ?_
          refine ay_t_loc (pc := 127) fe_88_127 rfl ?_
          cases hk10 : fn_87 D with
          | none => rw [hk10] at h; cases h
          | some z =>
            obtain ⟨y8, D9⟩ := z
            rw [hk10] at h
            dsimp only at h
            refine ay_t_call (pc := 128) (w := none) fe_88_128 (ay_args [.ref 321] [] rfl rfl (Nat.le_of_ble_eq_true rfl) (Nat.le_of_ble_eq_true rfl)) (ay_rcvV at_321 rfl) (ev_87 hk10) ?_
            cases h
            exact ay_t_vret fe_88_131 rfl
        · rw [if_neg hc7] at h
          refine ay_t_neg (pc := 102) hc7 fe_88_102 rfl ?_
          refine ay_t_loc (pc := 105) fe_88_105 rfl ?_
          refine ay_t_getR (pc := 106) (w := .ref 322) fe_88_106 at_321 (by decide +kernel) rfl ?_
          refine ay_t_stk (pc := 109) (S' := [.int 2, .ref 322]) fe_88_109 rfl ?_
          refine ay_t_ialoadk (pc := 110) (k := 2) fe_88_110 at_322 (by decide) (by decide) (by decide) ?_
          by_cases hc11 : (D 322 2) ≤ 0
          · rw [if_pos hc11] at h
            refine ay_t_pos (pc := 111) hc11 fe_88_111 rfl ?_
            refine ay_t_loc (pc := 127) fe_88_127 rfl ?_
            cases hk14 : fn_87 D with
            | none => rw [hk14] at h; cases h
            | some z =>
              obtain ⟨y12, D13⟩ := z
              rw [hk14] at h
              dsimp only at h
              refine ay_t_call (pc := 128) (w := none) fe_88_128 (ay_args [.ref 321] [] rfl rfl (Nat.le_of_ble_eq_true rfl) (Nat.le_of_ble_eq_true rfl)) (ay_rcvV at_321 rfl) (ev_87 hk14) ?_
              cases h
              exact ay_t_vret fe_88_131 rfl
          · rw [if_neg hc11] at h
            refine ay_t_neg (pc := 111) hc11 fe_88_111 rfl ?_
            refine ay_t_loc (pc := 114) fe_88_114 rfl ?_
            refine ay_t_getR (pc := 115) (w := .ref 322) fe_88_115 at_321 (by decide +kernel) rfl ?_
            refine ay_t_stk (pc := 118) (S' := [.int 1, .ref 322]) fe_88_118 rfl ?_
            refine ay_t_ialoadk (pc := 119) (k := 1) fe_88_119 at_322 (by decide) (by decide) (by decide) ?_
            by_cases hc15 : (D 322 1) ≤ 0
            · rw [if_pos hc15] at h
              refine ay_t_pos (pc := 120) hc15 fe_88_120 rfl ?_
              refine ay_t_loc (pc := 127) fe_88_127 rfl ?_
              cases hk18 : fn_87 D with
              | none => rw [hk18] at h; cases h
              | some z =>
                obtain ⟨y16, D17⟩ := z
                rw [hk18] at h
                dsimp only at h
                refine ay_t_call (pc := 128) (w := none) fe_88_128 (ay_args [.ref 321] [] rfl rfl (Nat.le_of_ble_eq_true rfl) (Nat.le_of_ble_eq_true rfl)) (ay_rcvV at_321 rfl) (ev_87 hk18) ?_
                cases h
                exact ay_t_vret fe_88_131 rfl
            · rw [if_neg hc15] at h
              refine ay_t_neg (pc := 120) hc15 fe_88_120 rfl ?_
              refine ay_t_loc (pc := 123) fe_88_123 rfl ?_
              cases hk21 : fn_86 D with
              | none => rw [hk21] at h; cases h
              | some z =>
                obtain ⟨y19, D20⟩ := z
                rw [hk21] at h
                dsimp only at h
                refine ay_t_call (pc := 124) (w := none) fe_88_124 (ay_args [.ref 321] [] rfl rfl (Nat.le_of_ble_eq_true rfl) (Nat.le_of_ble_eq_true rfl)) (ay_rcvV at_321 rfl) (ev_86 hk21) ?_
                refine ay_t_loc (pc := 127) fe_88_127 rfl ?_
                cases hk24 : fn_87 D20 with
                | none => rw [hk24] at h; cases h
                | some z =>
                  obtain ⟨y22, D23⟩ := z
                  rw [hk24] at h
                  dsimp only at h
                  refine ay_t_call (pc := 128) (w := none) fe_88_128 (ay_args [.ref 321] [] rfl rfl (Nat.le_of_ble_eq_true rfl) (Nat.le_of_ble_eq_true rfl)) (ay_rcvV at_321 rfl) (ev_87 hk24) ?_
                  cases h
                  exact ay_t_vret fe_88_131 rfl
    · rw [if_neg hc1] at h
      refine ay_t_neg (pc := 19) hc1 fe_88_19 rfl ?_
      refine ay_t_loc (pc := 22) fe_88_22 rfl ?_
      refine ay_t_loc (pc := 23) fe_88_23 rfl ?_
      cases hk27 : fn_84 x1 D with
      | none => rw [hk27] at h; cases h
      | some z =>
        obtain ⟨y25, D26⟩ := z
        rw [hk27] at h
        dsimp only at h
        refine ay_t_call (pc := 24) (w := some (.int y25)) fe_88_24 (ay_args [.ref 321, .int x1] [] rfl rfl (Nat.le_of_ble_eq_true rfl) (Nat.le_of_ble_eq_true rfl)) (ay_rcvV at_321 rfl) (ev_84 hk27) ?_
        refine ay_t_loc (pc := 27) (L' := [some (.ref 321), some (.int x1), some (.int y25)]) fe_88_27 rfl ?_
        refine ay_t_loc (pc := 28) fe_88_28 rfl ?_
        refine ay_t_stk (pc := 29) (S' := [.int 20, .int y25]) fe_88_29 rfl ?_
        by_cases hc28 : y25 < 20
        · rw [if_pos hc28] at h
          refine ay_t_pos (pc := 31) hc28 fe_88_31 rfl ?_
          refine ay_t_loc (pc := 74) (L' := [some (.ref 321), some (.int (x1 + 1)), some (.int y25)]) fe_88_74 rfl ?_
          refine ay_t_br (pc := 77) (pc' := 12) fe_88_77 rfl ?_
          exact ay_t_less (ay_ls (ay_ls (ay_ln ay_l0))) (ih _ _ _ _ h)
        · rw [if_neg hc28] at h
          refine ay_t_neg (pc := 31) hc28 fe_88_31 rfl ?_
          refine ay_t_loc (pc := 34) fe_88_34 rfl ?_
          refine ay_t_getR (pc := 35) (w := .ref 322) fe_88_35 at_321 (by decide +kernel) rfl ?_
          refine ay_t_stk (pc := 38) (S' := [.int 95, .ref 322]) fe_88_38 rfl ?_
          refine ay_t_loc (pc := 40) fe_88_40 rfl ?_
          refine ay_t_stk (pc := 41) (S' := [.int (95 + y25), .ref 322]) fe_88_41 rfl ?_
          refine ay_t_stk (pc := 42) (S' := [.int 20, .int (95 + y25), .ref 322]) fe_88_42 rfl ?_
          refine ay_t_stk (pc := 44) (S' := [.int ((95 + y25) - 20), .ref 322]) fe_88_44 rfl ?_
          refine ay_t_stk (pc := 45) (S' := [.int ((95 + y25) - 20), .ref 322, .int ((95 + y25) - 20), .ref 322]) fe_88_45 rfl ?_
          by_cases hb29 : ((95 + y25) - 20) < 0 ∨ 405 ≤ ((95 + y25) - 20).toNatClampNeg
          · rw [if_pos hb29] at h; cases h
          rw [if_neg hb29] at h
          refine ay_t_iaload (pc := 46) fe_88_46 at_322 (by decide) hb29 ?_
          refine ay_t_stk (pc := 47) (S' := [.int 1, .int (D26 322 ((95 + y25) - 20).toNatClampNeg), .int ((95 + y25) - 20), .ref 322]) fe_88_47 rfl ?_
          refine ay_t_stk (pc := 48) (S' := [.int ((D26 322 ((95 + y25) - 20).toNatClampNeg) + 1), .int ((95 + y25) - 20), .ref 322]) fe_88_48 rfl ?_
          by_cases hb30 : ((95 + y25) - 20) < 0 ∨ 405 ≤ ((95 + y25) - 20).toNatClampNeg
          · rw [if_pos hb30] at h; cases h
          rw [if_neg hb30] at h
          refine ay_t_iastore (pc := 49) fe_88_49 at_322 hb30 ?_
          refine ay_t_loc (pc := 50) fe_88_50 rfl ?_
          refine ay_t_getR (pc := 51) (w := .ref 322) fe_88_51 at_321 (by decide +kernel) rfl ?_
          refine ay_t_stk (pc := 54) (S' := [.int 100, .ref 322]) fe_88_54 rfl ?_
          refine ay_t_loc (pc := 56) fe_88_56 rfl ?_
          refine ay_t_stk (pc := 57) (S' := [.int (100 + y25), .ref 322]) fe_88_57 rfl ?_
          refine ay_t_stk (pc := 58) (S' := [.int 20, .int (100 + y25), .ref 322]) fe_88_58 rfl ?_
          refine ay_t_stk (pc := 60) (S' := [.int ((100 + y25) - 20), .ref 322]) fe_88_60 rfl ?_
          refine ay_t_stk (pc := 61) (S' := [.int ((100 + y25) - 20), .ref 322, .int ((100 + y25) - 20), .ref 322]) fe_88_61 rfl ?_
          by_cases hb31 : ((100 + y25) - 20) < 0 ∨ 405 ≤ ((100 + y25) - 20).toNatClampNeg
          · rw [if_pos hb31] at h; cases h
          rw [if_neg hb31] at h
          refine ay_t_iaload (pc := 62) fe_88_62 at_322 (by decide) hb31 ?_
          refine ay_t_stk (pc := 63) (S' := [.int 1, .int ((am_upd D26 322 ((95 + y25) - 20).toNatClampNeg ((D26 322 ((95 + y25) - 20).toNatClampNeg) + 1)) 322 ((100 + y25) - 20).toNatClampNeg), .int ((100 + y25) - 20), .ref 322]) fe_88_63 rfl ?_
          refine ay_t_stk (pc := 64) (S' := [.int (((am_upd D26 322 ((95 + y25) - 20).toNatClampNeg ((D26 322 ((95 + y25) - 20).toNatClampNeg) + 1)) 322 ((100 + y25) - 20).toNatClampNeg) + 1), .int ((100 + y25) - 20), .ref 322]) fe_88_64 rfl ?_
          by_cases hb32 : ((100 + y25) - 20) < 0 ∨ 405 ≤ ((100 + y25) - 20).toNatClampNeg
          · rw [if_pos hb32] at h; cases h
          rw [if_neg hb32] at h
          refine ay_t_iastore (pc := 65) fe_88_65 at_322 hb32 ?_
          refine ay_t_loc (pc := 66) fe_88_66 rfl ?_
          refine ay_t_loc (pc := 67) fe_88_67 rfl ?_
          cases hk35 : fn_85 x1 (am_upd (am_upd D26 322 ((95 + y25) - 20).toNatClampNeg ((D26 322 ((95 + y25) - 20).toNatClampNeg) + 1)) 322 ((100 + y25) - 20).toNatClampNeg (((am_upd D26 322 ((95 + y25) - 20).toNatClampNeg ((D26 322 ((95 + y25) - 20).toNatClampNeg) + 1)) 322 ((100 + y25) - 20).toNatClampNeg) + 1)) with
          | none => rw [hk35] at h; cases h
          | some z =>
            obtain ⟨y33, D34⟩ := z
            rw [hk35] at h
            dsimp only at h
            refine ay_t_call (pc := 68) (w := none) fe_88_68 (ay_args [.ref 321, .int x1] [] rfl rfl (Nat.le_of_ble_eq_true rfl) (Nat.le_of_ble_eq_true rfl)) (ay_rcvV at_321 rfl) (ev_85 hk35) ?_
            refine ay_t_br (pc := 71) (pc' := 77) fe_88_71 rfl ?_
            refine ay_t_br (pc := 77) (pc' := 12) fe_88_77 rfl ?_
            exact ay_t_less (ay_ls (ay_ls (ay_ln ay_l0))) (ih _ _ _ _ h)
def fn_88 (D : am_DD) : Option (Int32 × am_DD) := fn_88_12 am_F 0 (am_upd D 322 0 ((D 322 0) + 1))
set_option maxHeartbeats 2000000 in
theorem ev_88 {D : am_DD} {y : Int32} {Z : am_DD} (h : fn_88  D = some (y, Z)) : ay_mo 88 [.ref 321] D (.inl none) Z := by
  unfold fn_88 at h
  refine ay_m_of (L := [some (.ref 321), none, none]) rfl ?_
  refine ay_t_loc (pc := 0) fe_88_0 rfl ?_
  refine ay_t_getR (pc := 1) (w := .ref 322) fe_88_1 at_321 (by decide +kernel) rfl ?_
  refine ay_t_stk (pc := 4) (S' := [.int 0, .ref 322]) fe_88_4 rfl ?_
  refine ay_t_stk (pc := 5) (S' := [.int 0, .ref 322, .int 0, .ref 322]) fe_88_5 rfl ?_
  refine ay_t_ialoadk (pc := 6) (k := 0) fe_88_6 at_322 (by decide) (by decide) (by decide) ?_
  refine ay_t_stk (pc := 7) (S' := [.int 1, .int (D 322 0), .int 0, .ref 322]) fe_88_7 rfl ?_
  refine ay_t_stk (pc := 8) (S' := [.int ((D 322 0) + 1), .int 0, .ref 322]) fe_88_8 rfl ?_
  refine ay_t_iastorek (pc := 9) (k := 0) fe_88_9 at_322 (by decide) (by decide) ?_
  refine ay_t_stk (pc := 10) (S' := [.int 0]) fe_88_10 rfl ?_
  refine ay_t_loc (pc := 11) (L' := [some (.ref 321), some (.int 0), none]) fe_88_11 rfl ?_
  exact ay_t_less (ay_ls (ay_ls (ay_ls ay_l0))) (ev_88_12 _ _ _ _ _ h)
def fn_89_10 : Nat → Int32 → Int32 → Int32 → am_DD → Option (Int32 × am_DD)
  | 0, _, _, _, _ => none
  | n + 1, x1, x2, x3, D => (if x1 ≤ x3 then some (((D 322 9) - x2), D) else (match fn_88 D with | none => none | some (y2, D3) => fn_89_10 n x1 x2 (x3 + 1) D3))
set_option maxHeartbeats 2000000 in
theorem ev_89_10 : ∀ (n : Nat) (x1 x2 x3 : Int32) (D : am_DD) (y : Int32) (Z : am_DD), fn_89_10 n x1 x2 x3 D = some (y, Z) → ay_to 89 10 [some (.ref 321), some (.int x1), some (.int x2), some (.int x3)] [] D (.inl (some (.int y))) Z := by
  intro n
  induction n with
  | zero => intro x1 x2 x3 D y Z h; cases h
  | succ n ih =>
    intro x1 x2 x3 D y Z h
    rw [fn_89_10] at h
    refine ay_t_loc (pc := 10) fe_89_10 rfl ?_
    refine ay_t_loc (pc := 11) fe_89_11 rfl ?_
    by_cases hc1 : x1 ≤ x3
    · rw [if_pos hc1] at h
      refine ay_t_pos (pc := 12) hc1 fe_89_12 rfl ?_
      refine ay_t_loc (pc := 25) fe_89_25 rfl ?_
      refine ay_t_getR (pc := 26) (w := .ref 322) fe_89_26 at_321 (by decide +kernel) rfl ?_
      refine ay_t_stk (pc := 29) (S' := [.int 9, .ref 322]) fe_89_29 rfl ?_
      refine ay_t_ialoadk (pc := 31) (k := 9) fe_89_31 at_322 (by decide) (by decide) (by decide) ?_
      refine ay_t_loc (pc := 32) fe_89_32 rfl ?_
      refine ay_t_stk (pc := 33) (S' := [.int ((D 322 9) - x2)]) fe_89_33 rfl ?_
      cases h
      exact ay_t_iret fe_89_34 rfl rfl
    · rw [if_neg hc1] at h
      refine ay_t_neg (pc := 12) hc1 fe_89_12 rfl ?_
      refine ay_t_loc (pc := 15) fe_89_15 rfl ?_
      cases hk4 : fn_88 D with
      | none => rw [hk4] at h; cases h
      | some z =>
        obtain ⟨y2, D3⟩ := z
        rw [hk4] at h
        dsimp only at h
        refine ay_t_call (pc := 16) (w := none) fe_89_16 (ay_args [.ref 321] [] rfl rfl (Nat.le_of_ble_eq_true rfl) (Nat.le_of_ble_eq_true rfl)) (ay_rcvV at_321 rfl) (ev_88 hk4) ?_
        refine ay_t_loc (pc := 19) (L' := [some (.ref 321), some (.int x1), some (.int x2), some (.int (x3 + 1))]) fe_89_19 rfl ?_
        refine ay_t_br (pc := 22) (pc' := 10) fe_89_22 rfl ?_
        exact ay_t_less (ay_ls (ay_ls (ay_ls (ay_ls ay_l0)))) (ih _ _ _ _ _ _ h)
def fn_89 (a1 : Int32) (D : am_DD) : Option (Int32 × am_DD) := fn_89_10 am_F a1 (D 322 9) 0 D
set_option maxHeartbeats 2000000 in
theorem ev_89 {a1 : Int32} {D : am_DD} {y : Int32} {Z : am_DD} (h : fn_89 a1 D = some (y, Z)) : ay_mo 89 [.ref 321, .int a1] D (.inl (some (.int y))) Z := by
  unfold fn_89 at h
  refine ay_m_of (L := [some (.ref 321), some (.int a1), none, none]) rfl ?_
  refine ay_t_loc (pc := 0) fe_89_0 rfl ?_
  refine ay_t_getR (pc := 1) (w := .ref 322) fe_89_1 at_321 (by decide +kernel) rfl ?_
  refine ay_t_stk (pc := 4) (S' := [.int 9, .ref 322]) fe_89_4 rfl ?_
  refine ay_t_ialoadk (pc := 6) (k := 9) fe_89_6 at_322 (by decide) (by decide) (by decide) ?_
  refine ay_t_loc (pc := 7) (L' := [some (.ref 321), some (.int a1), some (.int (D 322 9)), none]) fe_89_7 rfl ?_
  refine ay_t_stk (pc := 8) (S' := [.int 0]) fe_89_8 rfl ?_
  refine ay_t_loc (pc := 9) (L' := [some (.ref 321), some (.int a1), some (.int (D 322 9)), some (.int 0)]) fe_89_9 rfl ?_
  exact ay_t_less (ay_ls (ay_ls (ay_ls (ay_ls ay_l0)))) (ev_89_10 _ _ _ _ _ _ _ h)
def fn_90 (a1 : Int32) (D : am_DD) : Option (Int32 × am_DD) := (match fn_26 a1 1 50 D with | none => none | some (y1, D2) => (if y1 = 0 then (match fn_29 1 D2 with | none => none | some (y5, D6) => (if ¬ y5 = 0 then (match fn_31 D6 with | none => none | some (y9, D10) => (match fn_89 a1 D10 with | none => none | some (y12, D13) => some (y12, D13))) else some (0, D6))) else (match fn_29 0 D2 with | none => none | some (y15, D16) => (if ¬ y15 = 0 then (match fn_31 D16 with | none => none | some (y19, D20) => (match fn_89 a1 D20 with | none => none | some (y22, D23) => some (y22, D23))) else some (0, D16)))))
set_option maxHeartbeats 2000000 in
theorem ev_90 {a1 : Int32} {D : am_DD} {y : Int32} {Z : am_DD} (h : fn_90 a1 D = some (y, Z)) : ay_mo 90 [.ref 321, .int a1] D (.inl (some (.int y))) Z := by
  unfold fn_90 at h
  refine ay_m_of (L := [some (.ref 321), some (.int a1)]) rfl ?_
  refine ay_t_loc (pc := 0) fe_90_0 rfl ?_
  refine ay_t_loc (pc := 1) fe_90_1 rfl ?_
  refine ay_t_stk (pc := 2) (S' := [.int 1, .int a1, .ref 321]) fe_90_2 rfl ?_
  refine ay_t_stk (pc := 3) (S' := [.int 50, .int 1, .int a1, .ref 321]) fe_90_3 rfl ?_
  cases hk3 : fn_26 a1 1 50 D with
  | none => rw [hk3] at h; cases h
  | some z =>
    obtain ⟨y1, D2⟩ := z
    rw [hk3] at h
    dsimp only at h
    refine ay_t_call (pc := 5) (w := some (.int y1)) fe_90_5 (ay_args [.int a1, .int 1, .int 50] [.ref 321] rfl rfl (Nat.le_of_ble_eq_true rfl) (Nat.le_of_ble_eq_true rfl)) rfl (ev_26 hk3) ?_
    by_cases hc4 : y1 = 0
    · rw [if_pos hc4] at h
      refine ay_t_pos (pc := 8) hc4 fe_90_8 rfl ?_
      refine ay_t_stk (pc := 15) (S' := [.int 1, .ref 321]) fe_90_15 rfl ?_
      cases hk7 : fn_29 1 D2 with
      | none => rw [hk7] at h; cases h
      | some z =>
        obtain ⟨y5, D6⟩ := z
        rw [hk7] at h
        dsimp only at h
        refine ay_t_call (pc := 16) (w := some (.int y5)) fe_90_16 (ay_args [.ref 321, .int 1] [] rfl rfl (Nat.le_of_ble_eq_true rfl) (Nat.le_of_ble_eq_true rfl)) (ay_rcvV at_321 rfl) (ev_29 hk7) ?_
        by_cases hc8 : ¬ y5 = 0
        · rw [if_pos hc8] at h
          refine ay_t_pos (pc := 19) hc8 fe_90_19 rfl ?_
          refine ay_t_loc (pc := 24) fe_90_24 rfl ?_
          cases hk11 : fn_31 D6 with
          | none => rw [hk11] at h; cases h
          | some z =>
            obtain ⟨y9, D10⟩ := z
            rw [hk11] at h
            dsimp only at h
            refine ay_t_call (pc := 25) (w := none) fe_90_25 (ay_args [.ref 321] [] rfl rfl (Nat.le_of_ble_eq_true rfl) (Nat.le_of_ble_eq_true rfl)) (ay_rcvV at_321 rfl) (ev_31 hk11) ?_
            refine ay_t_loc (pc := 28) fe_90_28 rfl ?_
            refine ay_t_loc (pc := 29) fe_90_29 rfl ?_
            cases hk14 : fn_89 a1 D10 with
            | none => rw [hk14] at h; cases h
            | some z =>
              obtain ⟨y12, D13⟩ := z
              rw [hk14] at h
              dsimp only at h
              refine ay_t_call (pc := 30) (w := some (.int y12)) fe_90_30 (ay_args [.ref 321, .int a1] [] rfl rfl (Nat.le_of_ble_eq_true rfl) (Nat.le_of_ble_eq_true rfl)) (ay_rcvV at_321 rfl) (ev_89 hk14) ?_
              cases h
              exact ay_t_iret fe_90_33 rfl rfl
        · rw [if_neg hc8] at h
          refine ay_t_neg (pc := 19) hc8 fe_90_19 rfl ?_
          refine ay_t_stk (pc := 22) (S' := [.int 0]) fe_90_22 rfl ?_
          cases h
          exact ay_t_iret fe_90_23 rfl rfl
    · rw [if_neg hc4] at h
      refine ay_t_neg (pc := 8) hc4 fe_90_8 rfl ?_
      refine ay_t_stk (pc := 11) (S' := [.int 0, .ref 321]) fe_90_11 rfl ?_
      refine ay_t_br (pc := 12) (pc' := 16) fe_90_12 rfl ?_
      cases hk17 : fn_29 0 D2 with
      | none => rw [hk17] at h; cases h
      | some z =>
        obtain ⟨y15, D16⟩ := z
        rw [hk17] at h
        dsimp only at h
        refine ay_t_call (pc := 16) (w := some (.int y15)) fe_90_16 (ay_args [.ref 321, .int 0] [] rfl rfl (Nat.le_of_ble_eq_true rfl) (Nat.le_of_ble_eq_true rfl)) (ay_rcvV at_321 rfl) (ev_29 hk17) ?_
        by_cases hc18 : ¬ y15 = 0
        · rw [if_pos hc18] at h
          refine ay_t_pos (pc := 19) hc18 fe_90_19 rfl ?_
          refine ay_t_loc (pc := 24) fe_90_24 rfl ?_
          cases hk21 : fn_31 D16 with
          | none => rw [hk21] at h; cases h
          | some z =>
            obtain ⟨y19, D20⟩ := z
            rw [hk21] at h
            dsimp only at h
            refine ay_t_call (pc := 25) (w := none) fe_90_25 (ay_args [.ref 321] [] rfl rfl (Nat.le_of_ble_eq_true rfl) (Nat.le_of_ble_eq_true rfl)) (ay_rcvV at_321 rfl) (ev_31 hk21) ?_
            refine ay_t_loc (pc := 28) fe_90_28 rfl ?_
            refine ay_t_loc (pc := 29) fe_90_29 rfl ?_
            cases hk24 : fn_89 a1 D20 with
            | none => rw [hk24] at h; cases h
            | some z =>
              obtain ⟨y22, D23⟩ := z
              rw [hk24] at h
              dsimp only at h
              refine ay_t_call (pc := 30) (w := some (.int y22)) fe_90_30 (ay_args [.ref 321, .int a1] [] rfl rfl (Nat.le_of_ble_eq_true rfl) (Nat.le_of_ble_eq_true rfl)) (ay_rcvV at_321 rfl) (ev_89 hk24) ?_
              cases h
              exact ay_t_iret fe_90_33 rfl rfl
        · rw [if_neg hc18] at h
          refine ay_t_neg (pc := 19) hc18 fe_90_19 rfl ?_
          refine ay_t_stk (pc := 22) (S' := [.int 0]) fe_90_22 rfl ?_
          cases h
          exact ay_t_iret fe_90_23 rfl rfl
def fn_91 (a1 : Int32) (D : am_DD) : Option (Int32 × am_DD) := (if a1 < 0 then some (0, D) else (if 5 ≤ a1 then some (0, D) else some (1, D)))
set_option maxHeartbeats 2000000 in
theorem ev_91 {a1 : Int32} {D : am_DD} {y : Int32} {Z : am_DD} (h : fn_91 a1 D = some (y, Z)) : ay_mo 91 [.int a1] D (.inl (some (.int y))) Z := by
  unfold fn_91 at h
  refine ay_m_of (L := [some (.int a1)]) rfl ?_
  refine ay_t_loc (pc := 0) fe_91_0 rfl ?_
  by_cases hc1 : a1 < 0
  · rw [if_pos hc1] at h
    refine ay_t_pos (pc := 1) hc1 fe_91_1 rfl ?_
    refine ay_t_stk (pc := 13) (S' := [.int 0]) fe_91_13 rfl ?_
    cases h
    exact ay_t_iret fe_91_14 rfl rfl
  · rw [if_neg hc1] at h
    refine ay_t_neg (pc := 1) hc1 fe_91_1 rfl ?_
    refine ay_t_loc (pc := 4) fe_91_4 rfl ?_
    refine ay_t_stk (pc := 5) (S' := [.int 5, .int a1]) fe_91_5 rfl ?_
    by_cases hc2 : 5 ≤ a1
    · rw [if_pos hc2] at h
      refine ay_t_pos (pc := 6) hc2 fe_91_6 rfl ?_
      refine ay_t_stk (pc := 13) (S' := [.int 0]) fe_91_13 rfl ?_
      cases h
      exact ay_t_iret fe_91_14 rfl rfl
    · rw [if_neg hc2] at h
      refine ay_t_neg (pc := 6) hc2 fe_91_6 rfl ?_
      refine ay_t_stk (pc := 9) (S' := [.int 1]) fe_91_9 rfl ?_
      refine ay_t_br (pc := 10) (pc' := 14) fe_91_10 rfl ?_
      cases h
      exact ay_t_iret fe_91_14 rfl rfl
def fn_92 (a1 : Int32) (D : am_DD) : Option (Int32 × am_DD) := some ((rw_at (D 5) 5 a1), (am_upd (rw_put D 5 5 a1 0) 1 1 (((rw_put D 5 5 a1 0) 1 1) + (rw_at (D 5) 5 a1))))
set_option maxHeartbeats 2000000 in
theorem ev_92 {a1 : Int32} {D : am_DD} {y : Int32} {Z : am_DD} (h : fn_92 a1 D = some (y, Z)) : ay_mo 92 [.ref 1, .int a1] D (.inl (some (.int y))) Z := by
  unfold fn_92 at h
  refine ay_m_of (L := [some (.ref 1), some (.int a1), none]) rfl ?_
  refine ay_t_loc (pc := 0) fe_92_0 rfl ?_
  refine ay_t_getR (pc := 1) (w := .ref 4) fe_92_1 at_1 (by decide +kernel) rfl ?_
  refine ay_t_loc (pc := 4) fe_92_4 rfl ?_
  refine ay_t_stk (pc := 5) (S' := [.int 0, .int a1, .ref 4]) fe_92_5 rfl ?_
  refine ay_t_call (pc := 6) (w := some (.int (rw_at (D 5) 5 a1))) fe_92_6 (ay_args [.ref 4, .int a1, .int 0] [] rfl rfl (Nat.le_of_ble_eq_true rfl) (Nat.le_of_ble_eq_true rfl)) (ay_rcvV at_4 rfl) (mt_exch at_4 at_5 (by decide)) ?_
  refine ay_t_loc (pc := 9) (L' := [some (.ref 1), some (.int a1), some (.int (rw_at (D 5) 5 a1))]) fe_92_9 rfl ?_
  refine ay_t_loc (pc := 10) fe_92_10 rfl ?_
  refine ay_t_stk (pc := 11) (S' := [.ref 1, .ref 1]) fe_92_11 rfl ?_
  refine ay_t_getI (pc := 12) fe_92_12 at_1 (by decide +kernel) rfl ?_
  refine ay_t_loc (pc := 15) fe_92_15 rfl ?_
  refine ay_t_stk (pc := 16) (S' := [.int (((rw_put D 5 5 a1 0) 1 1) + (rw_at (D 5) 5 a1)), .ref 1]) fe_92_16 rfl ?_
  refine ay_t_put (pc := 17) fe_92_17 at_1 (by decide +kernel) rfl rfl ?_
  refine ay_t_loc (pc := 20) fe_92_20 rfl ?_
  cases h
  exact ay_t_iret fe_92_21 rfl rfl
def fn_93 (a1 : Int32) (D : am_DD) : Option (Int32 × Nat × am_DD) := (match fn_91 a1 D with | none => none | some (y1, D2) => (if ¬ y1 = 0 then (match fn_22 D2 with | none => none | some (y5, D6) => (match fn_92 a1 D6 with | none => none | some (y8, D9) => some (y8, 0, D9))) else some (0, 3, D2)))
set_option maxHeartbeats 2000000 in
theorem ev_93 {a1 : Int32} {D : am_DD} {y : Int32} {k : Nat} {Z : am_DD} (h : fn_93 a1 D = some (y, k, Z)) : ay_mo 93 [.ref 0, .int a1] D (ay_oc y k) Z := by
  unfold fn_93 at h
  refine ay_m_of (L := [some (.ref 0), some (.int a1)]) rfl ?_
  refine ay_t_loc (pc := 0) fe_93_0 rfl ?_
  cases hk3 : fn_91 a1 D with
  | none => rw [hk3] at h; cases h
  | some z =>
    obtain ⟨y1, D2⟩ := z
    rw [hk3] at h
    dsimp only at h
    refine ay_t_call (pc := 1) (w := some (.int y1)) fe_93_1 (ay_args [.int a1] [] rfl rfl (Nat.le_of_ble_eq_true rfl) (Nat.le_of_ble_eq_true rfl)) rfl (ev_91 hk3) ?_
    by_cases hc4 : ¬ y1 = 0
    · rw [if_pos hc4] at h
      refine ay_t_pos (pc := 4) hc4 fe_93_4 rfl ?_
      refine ay_t_loc (pc := 17) fe_93_17 rfl ?_
      refine ay_t_getR (pc := 18) (w := .ref 56) fe_93_18 at_0 (by decide +kernel) rfl ?_
      refine ay_t_loc (pc := 21) fe_93_21 rfl ?_
      refine ay_t_getR (pc := 22) (w := .ref 1) fe_93_22 at_0 (by decide +kernel) rfl ?_
      cases hk7 : fn_22 D2 with
      | none => rw [hk7] at h; cases h
      | some z =>
        obtain ⟨y5, D6⟩ := z
        rw [hk7] at h
        dsimp only at h
        refine ay_t_call (pc := 25) (w := none) fe_93_25 (ay_args [.ref 56, .ref 1] [] rfl rfl (Nat.le_of_ble_eq_true rfl) (Nat.le_of_ble_eq_true rfl)) (ay_rcvV at_56 rfl) (ev_22 hk7) ?_
        refine ay_t_loc (pc := 28) fe_93_28 rfl ?_
        refine ay_t_getR (pc := 29) (w := .ref 1) fe_93_29 at_0 (by decide +kernel) rfl ?_
        refine ay_t_loc (pc := 32) fe_93_32 rfl ?_
        cases hk10 : fn_92 a1 D6 with
        | none => rw [hk10] at h; cases h
        | some z =>
          obtain ⟨y8, D9⟩ := z
          rw [hk10] at h
          dsimp only at h
          refine ay_t_call (pc := 33) (w := some (.int y8)) fe_93_33 (ay_args [.ref 1, .int a1] [] rfl rfl (Nat.le_of_ble_eq_true rfl) (Nat.le_of_ble_eq_true rfl)) (ay_rcvV at_1 rfl) (ev_92 hk10) ?_
          cases h
          exact ay_t_iret fe_93_36 rfl rfl
    · rw [if_neg hc4] at h
      refine ay_t_neg (pc := 4) hc4 fe_93_4 rfl ?_
      cases h
      exact ay_t_thr fe_93_7 (by decide)
def fn_95 (a1 : Int32) (D : am_DD) : Option (Int32 × am_DD) := (match fn_45 a1 D with | none => none | some (y1, D2) => (if y1 = 0 then (match fn_29 1 D2 with | none => none | some (y5, D6) => (if ¬ y5 = 0 then (match fn_31 D6 with | none => none | some (y9, D10) => (if (95 + a1) < 0 ∨ 405 ≤ (95 + a1).toNatClampNeg then none else (if (95 + a1) < 0 ∨ 405 ≤ (95 + a1).toNatClampNeg then none else some ((D10 322 (95 + a1).toNatClampNeg), (am_upd (am_upd D10 322 (95 + a1).toNatClampNeg 0) 322 2 (((am_upd D10 322 (95 + a1).toNatClampNeg 0) 322 2) + (D10 322 (95 + a1).toNatClampNeg))))))) else some (0, D6))) else (match fn_29 0 D2 with | none => none | some (y14, D15) => (if ¬ y14 = 0 then (match fn_31 D15 with | none => none | some (y18, D19) => (if (95 + a1) < 0 ∨ 405 ≤ (95 + a1).toNatClampNeg then none else (if (95 + a1) < 0 ∨ 405 ≤ (95 + a1).toNatClampNeg then none else some ((D19 322 (95 + a1).toNatClampNeg), (am_upd (am_upd D19 322 (95 + a1).toNatClampNeg 0) 322 2 (((am_upd D19 322 (95 + a1).toNatClampNeg 0) 322 2) + (D19 322 (95 + a1).toNatClampNeg))))))) else some (0, D15)))))
set_option maxHeartbeats 2000000 in
theorem ev_95 {a1 : Int32} {D : am_DD} {y : Int32} {Z : am_DD} (h : fn_95 a1 D = some (y, Z)) : ay_mo 95 [.ref 321, .int a1] D (.inl (some (.int y))) Z := by
  unfold fn_95 at h
  refine ay_m_of (L := [some (.ref 321), some (.int a1), none]) rfl ?_
  refine ay_t_loc (pc := 0) fe_95_0 rfl ?_
  refine ay_t_loc (pc := 1) fe_95_1 rfl ?_
  cases hk3 : fn_45 a1 D with
  | none => rw [hk3] at h; cases h
  | some z =>
    obtain ⟨y1, D2⟩ := z
    rw [hk3] at h
    dsimp only at h
    refine ay_t_call (pc := 2) (w := some (.int y1)) fe_95_2 (ay_args [.int a1] [.ref 321] rfl rfl (Nat.le_of_ble_eq_true rfl) (Nat.le_of_ble_eq_true rfl)) rfl (ev_45 hk3) ?_
    by_cases hc4 : y1 = 0
    · rw [if_pos hc4] at h
      refine ay_t_pos (pc := 5) hc4 fe_95_5 rfl ?_
      refine ay_t_stk (pc := 12) (S' := [.int 1, .ref 321]) fe_95_12 rfl ?_
      cases hk7 : fn_29 1 D2 with
      | none => rw [hk7] at h; cases h
      | some z =>
        obtain ⟨y5, D6⟩ := z
        rw [hk7] at h
        dsimp only at h
        refine ay_t_call (pc := 13) (w := some (.int y5)) fe_95_13 (ay_args [.ref 321, .int 1] [] rfl rfl (Nat.le_of_ble_eq_true rfl) (Nat.le_of_ble_eq_true rfl)) (ay_rcvV at_321 rfl) (ev_29 hk7) ?_
        by_cases hc8 : ¬ y5 = 0
        · rw [if_pos hc8] at h
          refine ay_t_pos (pc := 16) hc8 fe_95_16 rfl ?_
          refine ay_t_loc (pc := 21) fe_95_21 rfl ?_
          cases hk11 : fn_31 D6 with
          | none => rw [hk11] at h; cases h
          | some z =>
            obtain ⟨y9, D10⟩ := z
            rw [hk11] at h
            dsimp only at h
            refine ay_t_call (pc := 22) (w := none) fe_95_22 (ay_args [.ref 321] [] rfl rfl (Nat.le_of_ble_eq_true rfl) (Nat.le_of_ble_eq_true rfl)) (ay_rcvV at_321 rfl) (ev_31 hk11) ?_
            refine ay_t_loc (pc := 25) fe_95_25 rfl ?_
            refine ay_t_getR (pc := 26) (w := .ref 322) fe_95_26 at_321 (by decide +kernel) rfl ?_
            refine ay_t_stk (pc := 29) (S' := [.int 95, .ref 322]) fe_95_29 rfl ?_
            refine ay_t_loc (pc := 31) fe_95_31 rfl ?_
            refine ay_t_stk (pc := 32) (S' := [.int (95 + a1), .ref 322]) fe_95_32 rfl ?_
            by_cases hb12 : (95 + a1) < 0 ∨ 405 ≤ (95 + a1).toNatClampNeg
            · rw [if_pos hb12] at h; cases h
            rw [if_neg hb12] at h
            refine ay_t_iaload (pc := 33) fe_95_33 at_322 (by decide) hb12 ?_
            refine ay_t_loc (pc := 34) (L' := [some (.ref 321), some (.int a1), some (.int (D10 322 (95 + a1).toNatClampNeg))]) fe_95_34 rfl ?_
            refine ay_t_loc (pc := 35) fe_95_35 rfl ?_
            refine ay_t_getR (pc := 36) (w := .ref 322) fe_95_36 at_321 (by decide +kernel) rfl ?_
            refine ay_t_stk (pc := 39) (S' := [.int 95, .ref 322]) fe_95_39 rfl ?_
            refine ay_t_loc (pc := 41) fe_95_41 rfl ?_
            refine ay_t_stk (pc := 42) (S' := [.int (95 + a1), .ref 322]) fe_95_42 rfl ?_
            refine ay_t_stk (pc := 43) (S' := [.int 0, .int (95 + a1), .ref 322]) fe_95_43 rfl ?_
            by_cases hb13 : (95 + a1) < 0 ∨ 405 ≤ (95 + a1).toNatClampNeg
            · rw [if_pos hb13] at h; cases h
            rw [if_neg hb13] at h
            refine ay_t_iastore (pc := 44) fe_95_44 at_322 hb13 ?_
            refine ay_t_loc (pc := 45) fe_95_45 rfl ?_
            refine ay_t_getR (pc := 46) (w := .ref 322) fe_95_46 at_321 (by decide +kernel) rfl ?_
            refine ay_t_stk (pc := 49) (S' := [.int 2, .ref 322]) fe_95_49 rfl ?_
            refine ay_t_stk (pc := 50) (S' := [.int 2, .ref 322, .int 2, .ref 322]) fe_95_50 rfl ?_
            refine ay_t_ialoadk (pc := 51) (k := 2) fe_95_51 at_322 (by decide) (by decide) (by decide) ?_
            refine ay_t_loc (pc := 52) fe_95_52 rfl ?_
            refine ay_t_stk (pc := 53) (S' := [.int (((am_upd D10 322 (95 + a1).toNatClampNeg 0) 322 2) + (D10 322 (95 + a1).toNatClampNeg)), .int 2, .ref 322]) fe_95_53 rfl ?_
            refine ay_t_iastorek (pc := 54) (k := 2) fe_95_54 at_322 (by decide) (by decide) ?_
            refine ay_t_loc (pc := 55) fe_95_55 rfl ?_
            cases h
            exact ay_t_iret fe_95_56 rfl rfl
        · rw [if_neg hc8] at h
          refine ay_t_neg (pc := 16) hc8 fe_95_16 rfl ?_
          refine ay_t_stk (pc := 19) (S' := [.int 0]) fe_95_19 rfl ?_
          cases h
          exact ay_t_iret fe_95_20 rfl rfl
    · rw [if_neg hc4] at h
      refine ay_t_neg (pc := 5) hc4 fe_95_5 rfl ?_
      refine ay_t_stk (pc := 8) (S' := [.int 0, .ref 321]) fe_95_8 rfl ?_
      refine ay_t_br (pc := 9) (pc' := 13) fe_95_9 rfl ?_
      cases hk16 : fn_29 0 D2 with
      | none => rw [hk16] at h; cases h
      | some z =>
        obtain ⟨y14, D15⟩ := z
        rw [hk16] at h
        dsimp only at h
        refine ay_t_call (pc := 13) (w := some (.int y14)) fe_95_13 (ay_args [.ref 321, .int 0] [] rfl rfl (Nat.le_of_ble_eq_true rfl) (Nat.le_of_ble_eq_true rfl)) (ay_rcvV at_321 rfl) (ev_29 hk16) ?_
        by_cases hc17 : ¬ y14 = 0
        · rw [if_pos hc17] at h
          refine ay_t_pos (pc := 16) hc17 fe_95_16 rfl ?_
          refine ay_t_loc (pc := 21) fe_95_21 rfl ?_
          cases hk20 : fn_31 D15 with
          | none => rw [hk20] at h; cases h
          | some z =>
            obtain ⟨y18, D19⟩ := z
            rw [hk20] at h
            dsimp only at h
            refine ay_t_call (pc := 22) (w := none) fe_95_22 (ay_args [.ref 321] [] rfl rfl (Nat.le_of_ble_eq_true rfl) (Nat.le_of_ble_eq_true rfl)) (ay_rcvV at_321 rfl) (ev_31 hk20) ?_
            refine ay_t_loc (pc := 25) fe_95_25 rfl ?_
            refine ay_t_getR (pc := 26) (w := .ref 322) fe_95_26 at_321 (by decide +kernel) rfl ?_
            refine ay_t_stk (pc := 29) (S' := [.int 95, .ref 322]) fe_95_29 rfl ?_
            refine ay_t_loc (pc := 31) fe_95_31 rfl ?_
            refine ay_t_stk (pc := 32) (S' := [.int (95 + a1), .ref 322]) fe_95_32 rfl ?_
            by_cases hb21 : (95 + a1) < 0 ∨ 405 ≤ (95 + a1).toNatClampNeg
            · rw [if_pos hb21] at h; cases h
            rw [if_neg hb21] at h
            refine ay_t_iaload (pc := 33) fe_95_33 at_322 (by decide) hb21 ?_
            refine ay_t_loc (pc := 34) (L' := [some (.ref 321), some (.int a1), some (.int (D19 322 (95 + a1).toNatClampNeg))]) fe_95_34 rfl ?_
            refine ay_t_loc (pc := 35) fe_95_35 rfl ?_
            refine ay_t_getR (pc := 36) (w := .ref 322) fe_95_36 at_321 (by decide +kernel) rfl ?_
            refine ay_t_stk (pc := 39) (S' := [.int 95, .ref 322]) fe_95_39 rfl ?_
            refine ay_t_loc (pc := 41) fe_95_41 rfl ?_
            refine ay_t_stk (pc := 42) (S' := [.int (95 + a1), .ref 322]) fe_95_42 rfl ?_
            refine ay_t_stk (pc := 43) (S' := [.int 0, .int (95 + a1), .ref 322]) fe_95_43 rfl ?_
            by_cases hb22 : (95 + a1) < 0 ∨ 405 ≤ (95 + a1).toNatClampNeg
            · rw [if_pos hb22] at h; cases h
            rw [if_neg hb22] at h
            refine ay_t_iastore (pc := 44) fe_95_44 at_322 hb22 ?_
            refine ay_t_loc (pc := 45) fe_95_45 rfl ?_
            refine ay_t_getR (pc := 46) (w := .ref 322) fe_95_46 at_321 (by decide +kernel) rfl ?_
            refine ay_t_stk (pc := 49) (S' := [.int 2, .ref 322]) fe_95_49 rfl ?_
            refine ay_t_stk (pc := 50) (S' := [.int 2, .ref 322, .int 2, .ref 322]) fe_95_50 rfl ?_
            refine ay_t_ialoadk (pc := 51) (k := 2) fe_95_51 at_322 (by decide) (by decide) (by decide) ?_
            refine ay_t_loc (pc := 52) fe_95_52 rfl ?_
            refine ay_t_stk (pc := 53) (S' := [.int (((am_upd D19 322 (95 + a1).toNatClampNeg 0) 322 2) + (D19 322 (95 + a1).toNatClampNeg)), .int 2, .ref 322]) fe_95_53 rfl ?_
            refine ay_t_iastorek (pc := 54) (k := 2) fe_95_54 at_322 (by decide) (by decide) ?_
            refine ay_t_loc (pc := 55) fe_95_55 rfl ?_
            cases h
            exact ay_t_iret fe_95_56 rfl rfl
        · rw [if_neg hc17] at h
          refine ay_t_neg (pc := 16) hc17 fe_95_16 rfl ?_
          refine ay_t_stk (pc := 19) (S' := [.int 0]) fe_95_19 rfl ?_
          cases h
          exact ay_t_iret fe_95_20 rfl rfl
def fn_96 (D : am_DD) : Option (Int32 × am_DD) := (if (D 45 0) < 60 then some (0, D) else some (1, D))
set_option maxHeartbeats 2000000 in
theorem ev_96 {D : am_DD} {y : Int32} {Z : am_DD} (h : fn_96  D = some (y, Z)) : ay_mo 96 [.ref 45] D (.inl (some (.int y))) Z := by
  unfold fn_96 at h
  refine ay_m_of (L := [some (.ref 45)]) rfl ?_
  refine ay_t_loc (pc := 0) fe_96_0 rfl ?_
  refine ay_t_getI (pc := 1) fe_96_1 at_45 (by decide +kernel) rfl ?_
  refine ay_t_stk (pc := 4) (S' := [.int 60, .int (D 45 0)]) fe_96_4 rfl ?_
  by_cases hc1 : (D 45 0) < 60
  · rw [if_pos hc1] at h
    refine ay_t_pos (pc := 6) hc1 fe_96_6 rfl ?_
    refine ay_t_stk (pc := 13) (S' := [.int 0]) fe_96_13 rfl ?_
    cases h
    exact ay_t_iret fe_96_14 rfl rfl
  · rw [if_neg hc1] at h
    refine ay_t_neg (pc := 6) hc1 fe_96_6 rfl ?_
    refine ay_t_stk (pc := 9) (S' := [.int 1]) fe_96_9 rfl ?_
    refine ay_t_br (pc := 10) (pc' := 14) fe_96_10 rfl ?_
    cases h
    exact ay_t_iret fe_96_14 rfl rfl
def fn_97 (a1 : Int32) (D : am_DD) : Option (Int32 × am_DD) := some (((am_upd (rw_put D 47 60 (D 45 0) a1) 45 0 (((rw_put D 47 60 (D 45 0) a1) 45 0) + 1)) 45 0), (am_upd (rw_put D 47 60 (D 45 0) a1) 45 0 (((rw_put D 47 60 (D 45 0) a1) 45 0) + 1)))
set_option maxHeartbeats 2000000 in
theorem ev_97 {a1 : Int32} {D : am_DD} {y : Int32} {Z : am_DD} (h : fn_97 a1 D = some (y, Z)) : ay_mo 97 [.ref 45, .int a1] D (.inl (some (.int y))) Z := by
  unfold fn_97 at h
  refine ay_m_of (L := [some (.ref 45), some (.int a1)]) rfl ?_
  refine ay_t_loc (pc := 0) fe_97_0 rfl ?_
  refine ay_t_getR (pc := 1) (w := .ref 46) fe_97_1 at_45 (by decide +kernel) rfl ?_
  refine ay_t_loc (pc := 4) fe_97_4 rfl ?_
  refine ay_t_getI (pc := 5) fe_97_5 at_45 (by decide +kernel) rfl ?_
  refine ay_t_loc (pc := 8) fe_97_8 rfl ?_
  refine ay_t_call (pc := 9) (w := none) fe_97_9 (ay_args [.ref 46, .int (D 45 0), .int a1] [] rfl rfl (Nat.le_of_ble_eq_true rfl) (Nat.le_of_ble_eq_true rfl)) (ay_rcvV at_46 rfl) (mt_put at_46 at_47 (by decide)) ?_
  refine ay_t_loc (pc := 12) fe_97_12 rfl ?_
  refine ay_t_stk (pc := 13) (S' := [.ref 45, .ref 45]) fe_97_13 rfl ?_
  refine ay_t_getI (pc := 14) fe_97_14 at_45 (by decide +kernel) rfl ?_
  refine ay_t_stk (pc := 17) (S' := [.int 1, .int ((rw_put D 47 60 (D 45 0) a1) 45 0), .ref 45]) fe_97_17 rfl ?_
  refine ay_t_stk (pc := 18) (S' := [.int (((rw_put D 47 60 (D 45 0) a1) 45 0) + 1), .ref 45]) fe_97_18 rfl ?_
  refine ay_t_put (pc := 19) fe_97_19 at_45 (by decide +kernel) rfl rfl ?_
  refine ay_t_loc (pc := 22) fe_97_22 rfl ?_
  refine ay_t_getI (pc := 23) fe_97_23 at_45 (by decide +kernel) rfl ?_
  cases h
  exact ay_t_iret fe_97_26 rfl rfl
def fn_98 (a1 : Int32) (D : am_DD) : Option (Int32 × Nat × am_DD) := (if a1 < 33 then some (0, 1, D) else (if a1 ≤ 126 then (match fn_96 D with | none => none | some (y3, D4) => (if y3 = 0 then (match fn_97 a1 D4 with | none => none | some (y7, D8) => some (y7, 0, D8)) else some (0, 2, D4))) else some (0, 1, D)))
set_option maxHeartbeats 2000000 in
theorem ev_98 {a1 : Int32} {D : am_DD} {y : Int32} {k : Nat} {Z : am_DD} (h : fn_98 a1 D = some (y, k, Z)) : ay_mo 98 [.ref 0, .int a1] D (ay_oc y k) Z := by
  unfold fn_98 at h
  refine ay_m_of (L := [some (.ref 0), some (.int a1)]) rfl ?_
  refine ay_t_loc (pc := 0) fe_98_0 rfl ?_
  refine ay_t_stk (pc := 1) (S' := [.int 33, .int a1]) fe_98_1 rfl ?_
  by_cases hc1 : a1 < 33
  · rw [if_pos hc1] at h
    refine ay_t_pos (pc := 3) hc1 fe_98_3 rfl ?_
    cases h
    exact ay_t_thr fe_98_12 (by decide)
  · rw [if_neg hc1] at h
    refine ay_t_neg (pc := 3) hc1 fe_98_3 rfl ?_
    refine ay_t_loc (pc := 6) fe_98_6 rfl ?_
    refine ay_t_stk (pc := 7) (S' := [.int 126, .int a1]) fe_98_7 rfl ?_
    by_cases hc2 : a1 ≤ 126
    · rw [if_pos hc2] at h
      refine ay_t_pos (pc := 9) hc2 fe_98_9 rfl ?_
      refine ay_t_loc (pc := 22) fe_98_22 rfl ?_
      refine ay_t_getR (pc := 23) (w := .ref 45) fe_98_23 at_0 (by decide +kernel) rfl ?_
      cases hk5 : fn_96 D with
      | none => rw [hk5] at h; cases h
      | some z =>
        obtain ⟨y3, D4⟩ := z
        rw [hk5] at h
        dsimp only at h
        refine ay_t_call (pc := 26) (w := some (.int y3)) fe_98_26 (ay_args [.ref 45] [] rfl rfl (Nat.le_of_ble_eq_true rfl) (Nat.le_of_ble_eq_true rfl)) (ay_rcvV at_45 rfl) (ev_96 hk5) ?_
        by_cases hc6 : y3 = 0
        · rw [if_pos hc6] at h
          refine ay_t_pos (pc := 29) hc6 fe_98_29 rfl ?_
          refine ay_t_loc (pc := 42) fe_98_42 rfl ?_
          refine ay_t_getR (pc := 43) (w := .ref 45) fe_98_43 at_0 (by decide +kernel) rfl ?_
          refine ay_t_loc (pc := 46) fe_98_46 rfl ?_
          cases hk9 : fn_97 a1 D4 with
          | none => rw [hk9] at h; cases h
          | some z =>
            obtain ⟨y7, D8⟩ := z
            rw [hk9] at h
            dsimp only at h
            refine ay_t_call (pc := 47) (w := some (.int y7)) fe_98_47 (ay_args [.ref 45, .int a1] [] rfl rfl (Nat.le_of_ble_eq_true rfl) (Nat.le_of_ble_eq_true rfl)) (ay_rcvV at_45 rfl) (ev_97 hk9) ?_
            cases h
            exact ay_t_iret fe_98_50 rfl rfl
        · rw [if_neg hc6] at h
          refine ay_t_neg (pc := 29) hc6 fe_98_29 rfl ?_
          cases h
          exact ay_t_thr fe_98_32 (by decide)
    · rw [if_neg hc2] at h
      refine ay_t_neg (pc := 9) hc2 fe_98_9 rfl ?_
      cases h
      exact ay_t_thr fe_98_12 (by decide)
def fn_100 (a1 : Int32) (D : am_DD) : Option (Int32 × am_DD) := (match fn_26 a1 33 126 D with | none => none | some (y1, D2) => (if ¬ y1 = 0 then (if ¬ (D2 321 6) = 60 then (match fn_29 0 D2 with | none => none | some (y6, D7) => (if ¬ y6 = 0 then (if (D7 321 6) < 0 ∨ 60 ≤ (D7 321 6).toNatClampNeg then none else some (((am_upd (am_upd D7 326 (D7 321 6).toNatClampNeg a1) 321 6 (((am_upd D7 326 (D7 321 6).toNatClampNeg a1) 321 6) + 1)) 321 6), (am_upd (am_upd D7 326 (D7 321 6).toNatClampNeg a1) 321 6 (((am_upd D7 326 (D7 321 6).toNatClampNeg a1) 321 6) + 1)))) else some (0, D7))) else (match fn_29 2 D2 with | none => none | some (y11, D12) => (if ¬ y11 = 0 then (if (D12 321 6) < 0 ∨ 60 ≤ (D12 321 6).toNatClampNeg then none else some (((am_upd (am_upd D12 326 (D12 321 6).toNatClampNeg a1) 321 6 (((am_upd D12 326 (D12 321 6).toNatClampNeg a1) 321 6) + 1)) 321 6), (am_upd (am_upd D12 326 (D12 321 6).toNatClampNeg a1) 321 6 (((am_upd D12 326 (D12 321 6).toNatClampNeg a1) 321 6) + 1)))) else some (0, D12)))) else (match fn_29 1 D2 with | none => none | some (y16, D17) => (if ¬ y16 = 0 then (if (D17 321 6) < 0 ∨ 60 ≤ (D17 321 6).toNatClampNeg then none else some (((am_upd (am_upd D17 326 (D17 321 6).toNatClampNeg a1) 321 6 (((am_upd D17 326 (D17 321 6).toNatClampNeg a1) 321 6) + 1)) 321 6), (am_upd (am_upd D17 326 (D17 321 6).toNatClampNeg a1) 321 6 (((am_upd D17 326 (D17 321 6).toNatClampNeg a1) 321 6) + 1)))) else some (0, D17)))))
set_option maxHeartbeats 2000000 in
theorem ev_100 {a1 : Int32} {D : am_DD} {y : Int32} {Z : am_DD} (h : fn_100 a1 D = some (y, Z)) : ay_mo 100 [.ref 321, .int a1] D (.inl (some (.int y))) Z := by
  unfold fn_100 at h
  refine ay_m_of (L := [some (.ref 321), some (.int a1)]) rfl ?_
  refine ay_t_loc (pc := 0) fe_100_0 rfl ?_
  refine ay_t_loc (pc := 1) fe_100_1 rfl ?_
  refine ay_t_stk (pc := 2) (S' := [.int 33, .int a1, .ref 321]) fe_100_2 rfl ?_
  refine ay_t_stk (pc := 4) (S' := [.int 126, .int 33, .int a1, .ref 321]) fe_100_4 rfl ?_
  cases hk3 : fn_26 a1 33 126 D with
  | none => rw [hk3] at h; cases h
  | some z =>
    obtain ⟨y1, D2⟩ := z
    rw [hk3] at h
    dsimp only at h
    refine ay_t_call (pc := 6) (w := some (.int y1)) fe_100_6 (ay_args [.int a1, .int 33, .int 126] [.ref 321] rfl rfl (Nat.le_of_ble_eq_true rfl) (Nat.le_of_ble_eq_true rfl)) rfl (ev_26 hk3) ?_
    by_cases hc4 : ¬ y1 = 0
    · rw [if_pos hc4] at h
      refine ay_t_pos (pc := 9) hc4 fe_100_9 rfl ?_
      refine ay_t_loc (pc := 16) fe_100_16 rfl ?_
      refine ay_t_getI (pc := 17) fe_100_17 at_321 (by decide +kernel) rfl ?_
      refine ay_t_stk (pc := 20) (S' := [.int 60, .int (D2 321 6), .ref 321]) fe_100_20 rfl ?_
      by_cases hc5 : ¬ (D2 321 6) = 60
      · rw [if_pos hc5] at h
        refine ay_t_pos (pc := 22) hc5 fe_100_22 rfl ?_
        refine ay_t_stk (pc := 29) (S' := [.int 0, .ref 321]) fe_100_29 rfl ?_
        cases hk8 : fn_29 0 D2 with
        | none => rw [hk8] at h; cases h
        | some z =>
          obtain ⟨y6, D7⟩ := z
          rw [hk8] at h
          dsimp only at h
          refine ay_t_call (pc := 30) (w := some (.int y6)) fe_100_30 (ay_args [.ref 321, .int 0] [] rfl rfl (Nat.le_of_ble_eq_true rfl) (Nat.le_of_ble_eq_true rfl)) (ay_rcvV at_321 rfl) (ev_29 hk8) ?_
          by_cases hc9 : ¬ y6 = 0
          · rw [if_pos hc9] at h
            refine ay_t_pos (pc := 33) hc9 fe_100_33 rfl ?_
            refine ay_t_loc (pc := 38) fe_100_38 rfl ?_
            refine ay_t_getR (pc := 39) (w := .ref 326) fe_100_39 at_321 (by decide +kernel) rfl ?_
            refine ay_t_loc (pc := 42) fe_100_42 rfl ?_
            refine ay_t_getI (pc := 43) fe_100_43 at_321 (by decide +kernel) rfl ?_
            refine ay_t_loc (pc := 46) fe_100_46 rfl ?_
            by_cases hb10 : (D7 321 6) < 0 ∨ 60 ≤ (D7 321 6).toNatClampNeg
            · rw [if_pos hb10] at h; cases h
            rw [if_neg hb10] at h
            refine ay_t_iastore (pc := 47) fe_100_47 at_326 hb10 ?_
            refine ay_t_loc (pc := 48) fe_100_48 rfl ?_
            refine ay_t_stk (pc := 49) (S' := [.ref 321, .ref 321]) fe_100_49 rfl ?_
            refine ay_t_getI (pc := 50) fe_100_50 at_321 (by decide +kernel) rfl ?_
            refine ay_t_stk (pc := 53) (S' := [.int 1, .int ((am_upd D7 326 (D7 321 6).toNatClampNeg a1) 321 6), .ref 321]) fe_100_53 rfl ?_
            refine ay_t_stk (pc := 54) (S' := [.int (((am_upd D7 326 (D7 321 6).toNatClampNeg a1) 321 6) + 1), .ref 321]) fe_100_54 rfl ?_
            refine ay_t_put (pc := 55) fe_100_55 at_321 (by decide +kernel) rfl rfl ?_
            refine ay_t_loc (pc := 58) fe_100_58 rfl ?_
            refine ay_t_getI (pc := 59) fe_100_59 at_321 (by decide +kernel) rfl ?_
            cases h
            exact ay_t_iret fe_100_62 rfl rfl
          · rw [if_neg hc9] at h
            refine ay_t_neg (pc := 33) hc9 fe_100_33 rfl ?_
            refine ay_t_stk (pc := 36) (S' := [.int 0]) fe_100_36 rfl ?_
            cases h
            exact ay_t_iret fe_100_37 rfl rfl
      · rw [if_neg hc5] at h
        refine ay_t_neg (pc := 22) hc5 fe_100_22 rfl ?_
        refine ay_t_stk (pc := 25) (S' := [.int 2, .ref 321]) fe_100_25 rfl ?_
        refine ay_t_br (pc := 26) (pc' := 30) fe_100_26 rfl ?_
        cases hk13 : fn_29 2 D2 with
        | none => rw [hk13] at h; cases h
        | some z =>
          obtain ⟨y11, D12⟩ := z
          rw [hk13] at h
          dsimp only at h
          refine ay_t_call (pc := 30) (w := some (.int y11)) fe_100_30 (ay_args [.ref 321, .int 2] [] rfl rfl (Nat.le_of_ble_eq_true rfl) (Nat.le_of_ble_eq_true rfl)) (ay_rcvV at_321 rfl) (ev_29 hk13) ?_
          by_cases hc14 : ¬ y11 = 0
          · rw [if_pos hc14] at h
            refine ay_t_pos (pc := 33) hc14 fe_100_33 rfl ?_
            refine ay_t_loc (pc := 38) fe_100_38 rfl ?_
            refine ay_t_getR (pc := 39) (w := .ref 326) fe_100_39 at_321 (by decide +kernel) rfl ?_
            refine ay_t_loc (pc := 42) fe_100_42 rfl ?_
            refine ay_t_getI (pc := 43) fe_100_43 at_321 (by decide +kernel) rfl ?_
            refine ay_t_loc (pc := 46) fe_100_46 rfl ?_
            by_cases hb15 : (D12 321 6) < 0 ∨ 60 ≤ (D12 321 6).toNatClampNeg
            · rw [if_pos hb15] at h; cases h
            rw [if_neg hb15] at h
            refine ay_t_iastore (pc := 47) fe_100_47 at_326 hb15 ?_
            refine ay_t_loc (pc := 48) fe_100_48 rfl ?_
            refine ay_t_stk (pc := 49) (S' := [.ref 321, .ref 321]) fe_100_49 rfl ?_
            refine ay_t_getI (pc := 50) fe_100_50 at_321 (by decide +kernel) rfl ?_
            refine ay_t_stk (pc := 53) (S' := [.int 1, .int ((am_upd D12 326 (D12 321 6).toNatClampNeg a1) 321 6), .ref 321]) fe_100_53 rfl ?_
            refine ay_t_stk (pc := 54) (S' := [.int (((am_upd D12 326 (D12 321 6).toNatClampNeg a1) 321 6) + 1), .ref 321]) fe_100_54 rfl ?_
            refine ay_t_put (pc := 55) fe_100_55 at_321 (by decide +kernel) rfl rfl ?_
            refine ay_t_loc (pc := 58) fe_100_58 rfl ?_
            refine ay_t_getI (pc := 59) fe_100_59 at_321 (by decide +kernel) rfl ?_
            cases h
            exact ay_t_iret fe_100_62 rfl rfl
          · rw [if_neg hc14] at h
            refine ay_t_neg (pc := 33) hc14 fe_100_33 rfl ?_
            refine ay_t_stk (pc := 36) (S' := [.int 0]) fe_100_36 rfl ?_
            cases h
            exact ay_t_iret fe_100_37 rfl rfl
    · rw [if_neg hc4] at h
      refine ay_t_neg (pc := 9) hc4 fe_100_9 rfl ?_
      refine ay_t_stk (pc := 12) (S' := [.int 1, .ref 321]) fe_100_12 rfl ?_
      refine ay_t_br (pc := 13) (pc' := 30) fe_100_13 rfl ?_
      cases hk18 : fn_29 1 D2 with
      | none => rw [hk18] at h; cases h
      | some z =>
        obtain ⟨y16, D17⟩ := z
        rw [hk18] at h
        dsimp only at h
        refine ay_t_call (pc := 30) (w := some (.int y16)) fe_100_30 (ay_args [.ref 321, .int 1] [] rfl rfl (Nat.le_of_ble_eq_true rfl) (Nat.le_of_ble_eq_true rfl)) (ay_rcvV at_321 rfl) (ev_29 hk18) ?_
        by_cases hc19 : ¬ y16 = 0
        · rw [if_pos hc19] at h
          refine ay_t_pos (pc := 33) hc19 fe_100_33 rfl ?_
          refine ay_t_loc (pc := 38) fe_100_38 rfl ?_
          refine ay_t_getR (pc := 39) (w := .ref 326) fe_100_39 at_321 (by decide +kernel) rfl ?_
          refine ay_t_loc (pc := 42) fe_100_42 rfl ?_
          refine ay_t_getI (pc := 43) fe_100_43 at_321 (by decide +kernel) rfl ?_
          refine ay_t_loc (pc := 46) fe_100_46 rfl ?_
          by_cases hb20 : (D17 321 6) < 0 ∨ 60 ≤ (D17 321 6).toNatClampNeg
          · rw [if_pos hb20] at h; cases h
          rw [if_neg hb20] at h
          refine ay_t_iastore (pc := 47) fe_100_47 at_326 hb20 ?_
          refine ay_t_loc (pc := 48) fe_100_48 rfl ?_
          refine ay_t_stk (pc := 49) (S' := [.ref 321, .ref 321]) fe_100_49 rfl ?_
          refine ay_t_getI (pc := 50) fe_100_50 at_321 (by decide +kernel) rfl ?_
          refine ay_t_stk (pc := 53) (S' := [.int 1, .int ((am_upd D17 326 (D17 321 6).toNatClampNeg a1) 321 6), .ref 321]) fe_100_53 rfl ?_
          refine ay_t_stk (pc := 54) (S' := [.int (((am_upd D17 326 (D17 321 6).toNatClampNeg a1) 321 6) + 1), .ref 321]) fe_100_54 rfl ?_
          refine ay_t_put (pc := 55) fe_100_55 at_321 (by decide +kernel) rfl rfl ?_
          refine ay_t_loc (pc := 58) fe_100_58 rfl ?_
          refine ay_t_getI (pc := 59) fe_100_59 at_321 (by decide +kernel) rfl ?_
          cases h
          exact ay_t_iret fe_100_62 rfl rfl
        · rw [if_neg hc19] at h
          refine ay_t_neg (pc := 33) hc19 fe_100_33 rfl ?_
          refine ay_t_stk (pc := 36) (S' := [.int 0]) fe_100_36 rfl ?_
          cases h
          exact ay_t_iret fe_100_37 rfl rfl
def fn_101 (D : am_DD) : Option (Int32 × am_DD) := some ((D 45 0), (am_upd D 45 0 0))
set_option maxHeartbeats 2000000 in
theorem ev_101 {D : am_DD} {y : Int32} {Z : am_DD} (h : fn_101  D = some (y, Z)) : ay_mo 101 [.ref 45] D (.inl (some (.int y))) Z := by
  unfold fn_101 at h
  refine ay_m_of (L := [some (.ref 45), none]) rfl ?_
  refine ay_t_loc (pc := 0) fe_101_0 rfl ?_
  refine ay_t_getI (pc := 1) fe_101_1 at_45 (by decide +kernel) rfl ?_
  refine ay_t_loc (pc := 4) (L' := [some (.ref 45), some (.int (D 45 0))]) fe_101_4 rfl ?_
  refine ay_t_loc (pc := 5) fe_101_5 rfl ?_
  refine ay_t_stk (pc := 6) (S' := [.int 0, .ref 45]) fe_101_6 rfl ?_
  refine ay_t_put (pc := 7) fe_101_7 at_45 (by decide +kernel) rfl rfl ?_
  refine ay_t_loc (pc := 10) fe_101_10 rfl ?_
  cases h
  exact ay_t_iret fe_101_11 rfl rfl
def fn_102 (D : am_DD) : Option (Int32 × am_DD) := (match fn_101 D with | none => none | some (y1, D2) => some (y1, D2))
set_option maxHeartbeats 2000000 in
theorem ev_102 {D : am_DD} {y : Int32} {Z : am_DD} (h : fn_102  D = some (y, Z)) : ay_mo 102 [.ref 0] D (.inl (some (.int y))) Z := by
  unfold fn_102 at h
  refine ay_m_of (L := [some (.ref 0)]) rfl ?_
  refine ay_t_loc (pc := 0) fe_102_0 rfl ?_
  refine ay_t_getR (pc := 1) (w := .ref 45) fe_102_1 at_0 (by decide +kernel) rfl ?_
  cases hk3 : fn_101 D with
  | none => rw [hk3] at h; cases h
  | some z =>
    obtain ⟨y1, D2⟩ := z
    rw [hk3] at h
    dsimp only at h
    refine ay_t_call (pc := 4) (w := some (.int y1)) fe_102_4 (ay_args [.ref 45] [] rfl rfl (Nat.le_of_ble_eq_true rfl) (Nat.le_of_ble_eq_true rfl)) (ay_rcvV at_45 rfl) (ev_101 hk3) ?_
    cases h
    exact ay_t_iret fe_102_7 rfl rfl
def fn_103 (D : am_DD) : Option (Int32 × am_DD) := some (((am_upd D 321 7 0) 321 6), (am_upd (am_upd D 321 7 0) 321 6 0))
set_option maxHeartbeats 2000000 in
theorem ev_103 {D : am_DD} {y : Int32} {Z : am_DD} (h : fn_103  D = some (y, Z)) : ay_mo 103 [.ref 321] D (.inl (some (.int y))) Z := by
  unfold fn_103 at h
  refine ay_m_of (L := [some (.ref 321), none]) rfl ?_
  refine ay_t_loc (pc := 0) fe_103_0 rfl ?_
  refine ay_t_stk (pc := 1) (S' := [.int 0, .ref 321]) fe_103_1 rfl ?_
  refine ay_t_put (pc := 2) fe_103_2 at_321 (by decide +kernel) rfl rfl ?_
  refine ay_t_loc (pc := 5) fe_103_5 rfl ?_
  refine ay_t_getI (pc := 6) fe_103_6 at_321 (by decide +kernel) rfl ?_
  refine ay_t_loc (pc := 9) (L' := [some (.ref 321), some (.int ((am_upd D 321 7 0) 321 6))]) fe_103_9 rfl ?_
  refine ay_t_loc (pc := 10) fe_103_10 rfl ?_
  refine ay_t_stk (pc := 11) (S' := [.int 0, .ref 321]) fe_103_11 rfl ?_
  refine ay_t_put (pc := 12) fe_103_12 at_321 (by decide +kernel) rfl rfl ?_
  refine ay_t_loc (pc := 15) fe_103_15 rfl ?_
  cases h
  exact ay_t_iret fe_103_16 rfl rfl
def fn_104 (D : am_DD) : Option (Int32 × am_DD) := (if (D 45 2) = 2 then (if (rw_at (D 49) 20 (D 45 3)) = 101 then some (0, D) else some (1, D)) else (if (D 45 2) = 3 then some (0, D) else (if (D 45 2) = 4 then some (1, D) else (if (D 45 2) = 5 then some (0, D) else (if (D 45 2) = 6 then some (1, D) else some (0, D))))))
set_option maxHeartbeats 2000000 in
theorem ev_104 {D : am_DD} {y : Int32} {Z : am_DD} (h : fn_104  D = some (y, Z)) : ay_mo 104 [.ref 45] D (.inl (some (.int y))) Z := by
  unfold fn_104 at h
  refine ay_m_of (L := [some (.ref 45)]) rfl ?_
  refine ay_t_loc (pc := 0) fe_104_0 rfl ?_
  refine ay_t_getI (pc := 1) fe_104_1 at_45 (by decide +kernel) rfl ?_
  by_cases hc1 : (D 45 2) = 2
  · rw [if_pos hc1] at h
    refine ay_t_br (pc := 4) (pc' := 40) (S' := []) fe_104_4 (by rw [hc1]; rfl) ?_
    refine ay_t_loc (pc := 40) fe_104_40 rfl ?_
    refine ay_t_getR (pc := 41) (w := .ref 48) fe_104_41 at_45 (by decide +kernel) rfl ?_
    refine ay_t_loc (pc := 44) fe_104_44 rfl ?_
    refine ay_t_getI (pc := 45) fe_104_45 at_45 (by decide +kernel) rfl ?_
    refine ay_t_call (pc := 48) (w := some (.int (rw_at (D 49) 20 (D 45 3)))) fe_104_48 (ay_args [.ref 48, .int (D 45 3)] [] rfl rfl (Nat.le_of_ble_eq_true rfl) (Nat.le_of_ble_eq_true rfl)) (ay_rcvV at_48 rfl) (mt_at at_48 at_49 (by decide)) ?_
    refine ay_t_stk (pc := 51) (S' := [.int 101, .int (rw_at (D 49) 20 (D 45 3))]) fe_104_51 rfl ?_
    by_cases hc2 : (rw_at (D 49) 20 (D 45 3)) = 101
    · rw [if_pos hc2] at h
      refine ay_t_pos (pc := 53) hc2 fe_104_53 rfl ?_
      refine ay_t_stk (pc := 60) (S' := [.int 0]) fe_104_60 rfl ?_
      cases h
      exact ay_t_iret fe_104_61 rfl rfl
    · rw [if_neg hc2] at h
      refine ay_t_neg (pc := 53) hc2 fe_104_53 rfl ?_
      refine ay_t_stk (pc := 56) (S' := [.int 1]) fe_104_56 rfl ?_
      refine ay_t_br (pc := 57) (pc' := 61) fe_104_57 rfl ?_
      cases h
      exact ay_t_iret fe_104_61 rfl rfl
  · rw [if_neg hc1] at h
    by_cases hc3 : (D 45 2) = 3
    · rw [if_pos hc3] at h
      refine ay_t_br (pc := 4) (pc' := 64) (S' := []) fe_104_4 (by rw [hc3]; rfl) ?_
      refine ay_t_stk (pc := 64) (S' := [.int 0]) fe_104_64 rfl ?_
      cases h
      exact ay_t_iret fe_104_65 rfl rfl
    · rw [if_neg hc3] at h
      by_cases hc4 : (D 45 2) = 4
      · rw [if_pos hc4] at h
        refine ay_t_br (pc := 4) (pc' := 62) (S' := []) fe_104_4 (by rw [hc4]; rfl) ?_
        refine ay_t_stk (pc := 62) (S' := [.int 1]) fe_104_62 rfl ?_
        cases h
        exact ay_t_iret fe_104_63 rfl rfl
      · rw [if_neg hc4] at h
        by_cases hc5 : (D 45 2) = 5
        · rw [if_pos hc5] at h
          refine ay_t_br (pc := 4) (pc' := 64) (S' := []) fe_104_4 (by rw [hc5]; rfl) ?_
          refine ay_t_stk (pc := 64) (S' := [.int 0]) fe_104_64 rfl ?_
          cases h
          exact ay_t_iret fe_104_65 rfl rfl
        · rw [if_neg hc5] at h
          by_cases hc6 : (D 45 2) = 6
          · rw [if_pos hc6] at h
            refine ay_t_br (pc := 4) (pc' := 62) (S' := []) fe_104_4 (by rw [hc6]; rfl) ?_
            refine ay_t_stk (pc := 62) (S' := [.int 1]) fe_104_62 rfl ?_
            cases h
            exact ay_t_iret fe_104_63 rfl rfl
          · rw [if_neg hc6] at h
            refine ay_t_br (pc := 4) (pc' := 64) fe_104_4 (ay_tab_def (by have z0 := ay_ne_toInt (c := 2) hc1 (by decide); have z1 := ay_ne_toInt (c := 3) hc3 (by decide); have z2 := ay_ne_toInt (c := 4) hc4 (by decide); have z3 := ay_ne_toInt (c := 5) hc5 (by decide); have z4 := ay_ne_toInt (c := 6) hc6 (by decide); omega) rfl) ?_
            refine ay_t_stk (pc := 64) (S' := [.int 0]) fe_104_64 rfl ?_
            cases h
            exact ay_t_iret fe_104_65 rfl rfl
def fn_105 (D : am_DD) : Option (Int32 × am_DD) := (match fn_104 D with | none => none | some (y1, D2) => (if ¬ y1 = 0 then some (1, (am_upd (am_upd D2 45 3 ((D2 45 3) + 1)) 45 2 0)) else some (0, D2)))
set_option maxHeartbeats 2000000 in
theorem ev_105 {D : am_DD} {y : Int32} {Z : am_DD} (h : fn_105  D = some (y, Z)) : ay_mo 105 [.ref 45] D (.inl (some (.int y))) Z := by
  unfold fn_105 at h
  refine ay_m_of (L := [some (.ref 45)]) rfl ?_
  refine ay_t_loc (pc := 0) fe_105_0 rfl ?_
  cases hk3 : fn_104 D with
  | none => rw [hk3] at h; cases h
  | some z =>
    obtain ⟨y1, D2⟩ := z
    rw [hk3] at h
    dsimp only at h
    refine ay_t_call (pc := 1) (w := some (.int y1)) fe_105_1 (ay_args [.ref 45] [] rfl rfl (Nat.le_of_ble_eq_true rfl) (Nat.le_of_ble_eq_true rfl)) (ay_rcvV at_45 rfl) (ev_104 hk3) ?_
    by_cases hc4 : ¬ y1 = 0
    · rw [if_pos hc4] at h
      refine ay_t_pos (pc := 4) hc4 fe_105_4 rfl ?_
      refine ay_t_loc (pc := 9) fe_105_9 rfl ?_
      refine ay_t_stk (pc := 10) (S' := [.ref 45, .ref 45]) fe_105_10 rfl ?_
      refine ay_t_getI (pc := 11) fe_105_11 at_45 (by decide +kernel) rfl ?_
      refine ay_t_stk (pc := 14) (S' := [.int 1, .int (D2 45 3), .ref 45]) fe_105_14 rfl ?_
      refine ay_t_stk (pc := 15) (S' := [.int ((D2 45 3) + 1), .ref 45]) fe_105_15 rfl ?_
      refine ay_t_put (pc := 16) fe_105_16 at_45 (by decide +kernel) rfl rfl ?_
      refine ay_t_loc (pc := 19) fe_105_19 rfl ?_
      refine ay_t_stk (pc := 20) (S' := [.int 0, .ref 45]) fe_105_20 rfl ?_
      refine ay_t_put (pc := 21) fe_105_21 at_45 (by decide +kernel) rfl rfl ?_
      refine ay_t_stk (pc := 24) (S' := [.int 1]) fe_105_24 rfl ?_
      cases h
      exact ay_t_iret fe_105_25 rfl rfl
    · rw [if_neg hc4] at h
      refine ay_t_neg (pc := 4) hc4 fe_105_4 rfl ?_
      refine ay_t_stk (pc := 7) (S' := [.int 0]) fe_105_7 rfl ?_
      cases h
      exact ay_t_iret fe_105_8 rfl rfl
def fn_106 (a1 : Int32) (D : am_DD) : Option (Int32 × am_DD) := (if a1 = 100 then some (40, D) else (if a1 = 101 then some (11, D) else (if a1 = 102 then some (11, D) else (if a1 = 103 then some (30, D) else (if a1 = 116 then some (50, D) else some ((-1), D))))))
set_option maxHeartbeats 2000000 in
theorem ev_106 {a1 : Int32} {D : am_DD} {y : Int32} {Z : am_DD} (h : fn_106 a1 D = some (y, Z)) : ay_mo 106 [.int a1] D (.inl (some (.int y))) Z := by
  unfold fn_106 at h
  refine ay_m_of (L := [some (.int a1)]) rfl ?_
  refine ay_t_loc (pc := 0) fe_106_0 rfl ?_
  by_cases hc1 : a1 = 100
  · rw [if_pos hc1] at h
    refine ay_t_br (pc := 1) (pc' := 58) (S' := []) fe_106_1 (by rw [hc1]; rfl) ?_
    refine ay_t_stk (pc := 58) (S' := [.int 40]) fe_106_58 rfl ?_
    cases h
    exact ay_t_iret fe_106_60 rfl rfl
  · rw [if_neg hc1] at h
    by_cases hc2 : a1 = 101
    · rw [if_pos hc2] at h
      refine ay_t_br (pc := 1) (pc' := 55) (S' := []) fe_106_1 (by rw [hc2]; rfl) ?_
      refine ay_t_stk (pc := 55) (S' := [.int 11]) fe_106_55 rfl ?_
      cases h
      exact ay_t_iret fe_106_57 rfl rfl
    · rw [if_neg hc2] at h
      by_cases hc3 : a1 = 102
      · rw [if_pos hc3] at h
        refine ay_t_br (pc := 1) (pc' := 55) (S' := []) fe_106_1 (by rw [hc3]; rfl) ?_
        refine ay_t_stk (pc := 55) (S' := [.int 11]) fe_106_55 rfl ?_
        cases h
        exact ay_t_iret fe_106_57 rfl rfl
      · rw [if_neg hc3] at h
        by_cases hc4 : a1 = 103
        · rw [if_pos hc4] at h
          refine ay_t_br (pc := 1) (pc' := 52) (S' := []) fe_106_1 (by rw [hc4]; rfl) ?_
          refine ay_t_stk (pc := 52) (S' := [.int 30]) fe_106_52 rfl ?_
          cases h
          exact ay_t_iret fe_106_54 rfl rfl
        · rw [if_neg hc4] at h
          by_cases hc5 : a1 = 116
          · rw [if_pos hc5] at h
            refine ay_t_br (pc := 1) (pc' := 61) (S' := []) fe_106_1 (by rw [hc5]; rfl) ?_
            refine ay_t_stk (pc := 61) (S' := [.int 50]) fe_106_61 rfl ?_
            cases h
            exact ay_t_iret fe_106_63 rfl rfl
          · rw [if_neg hc5] at h
            refine ay_t_br (pc := 1) (pc' := 64) fe_106_1 (ay_look_def (x := a1) (by simp only [List.toList_toArray, Op.lookupswitch.offset_cons, Op.lookupswitch.offset_nil, if_neg (Ne.symm (ay_ne_toInt (c := 100) hc1 (by decide))), if_neg (Ne.symm (ay_ne_toInt (c := 101) hc2 (by decide))), if_neg (Ne.symm (ay_ne_toInt (c := 102) hc3 (by decide))), if_neg (Ne.symm (ay_ne_toInt (c := 103) hc4 (by decide))), if_neg (Ne.symm (ay_ne_toInt (c := 116) hc5 (by decide)))]) rfl) ?_
            refine ay_t_stk (pc := 64) (S' := [.int (-1)]) fe_106_64 rfl ?_
            cases h
            exact ay_t_iret fe_106_65 rfl rfl
def fn_107 (a1 : Int32) (D : am_DD) : Option (Int32 × am_DD) := (match fn_106 a1 D with | none => none | some (y1, D2) => (if 0 ≤ y1 then some (1, (am_upd (rw_put D2 49 20 (D2 45 3) a1) 45 2 1)) else some (0, D2)))
set_option maxHeartbeats 2000000 in
theorem ev_107 {a1 : Int32} {D : am_DD} {y : Int32} {Z : am_DD} (h : fn_107 a1 D = some (y, Z)) : ay_mo 107 [.ref 45, .int a1] D (.inl (some (.int y))) Z := by
  unfold fn_107 at h
  refine ay_m_of (L := [some (.ref 45), some (.int a1)]) rfl ?_
  refine ay_t_loc (pc := 0) fe_107_0 rfl ?_
  cases hk3 : fn_106 a1 D with
  | none => rw [hk3] at h; cases h
  | some z =>
    obtain ⟨y1, D2⟩ := z
    rw [hk3] at h
    dsimp only at h
    refine ay_t_call (pc := 1) (w := some (.int y1)) fe_107_1 (ay_args [.int a1] [] rfl rfl (Nat.le_of_ble_eq_true rfl) (Nat.le_of_ble_eq_true rfl)) rfl (ev_106 hk3) ?_
    by_cases hc4 : 0 ≤ y1
    · rw [if_pos hc4] at h
      refine ay_t_pos (pc := 4) hc4 fe_107_4 rfl ?_
      refine ay_t_loc (pc := 9) fe_107_9 rfl ?_
      refine ay_t_getR (pc := 10) (w := .ref 48) fe_107_10 at_45 (by decide +kernel) rfl ?_
      refine ay_t_loc (pc := 13) fe_107_13 rfl ?_
      refine ay_t_getI (pc := 14) fe_107_14 at_45 (by decide +kernel) rfl ?_
      refine ay_t_loc (pc := 17) fe_107_17 rfl ?_
      refine ay_t_call (pc := 18) (w := none) fe_107_18 (ay_args [.ref 48, .int (D2 45 3), .int a1] [] rfl rfl (Nat.le_of_ble_eq_true rfl) (Nat.le_of_ble_eq_true rfl)) (ay_rcvV at_48 rfl) (mt_put at_48 at_49 (by decide)) ?_
      refine ay_t_loc (pc := 21) fe_107_21 rfl ?_
      refine ay_t_stk (pc := 22) (S' := [.int 1, .ref 45]) fe_107_22 rfl ?_
      refine ay_t_put (pc := 23) fe_107_23 at_45 (by decide +kernel) rfl rfl ?_
      refine ay_t_stk (pc := 26) (S' := [.int 1]) fe_107_26 rfl ?_
      cases h
      exact ay_t_iret fe_107_27 rfl rfl
    · rw [if_neg hc4] at h
      refine ay_t_neg (pc := 4) hc4 fe_107_4 rfl ?_
      refine ay_t_stk (pc := 7) (S' := [.int 0]) fe_107_7 rfl ?_
      cases h
      exact ay_t_iret fe_107_8 rfl rfl
def fn_108 (a1 : Int32) (D : am_DD) : Option (Int32 × am_DD) := (if a1 < 48 then some (0, D) else (if 57 < a1 then some (0, D) else some (1, D)))
set_option maxHeartbeats 2000000 in
theorem ev_108 {a1 : Int32} {D : am_DD} {y : Int32} {Z : am_DD} (h : fn_108 a1 D = some (y, Z)) : ay_mo 108 [.int a1] D (.inl (some (.int y))) Z := by
  unfold fn_108 at h
  refine ay_m_of (L := [some (.int a1)]) rfl ?_
  refine ay_t_loc (pc := 0) fe_108_0 rfl ?_
  refine ay_t_stk (pc := 1) (S' := [.int 48, .int a1]) fe_108_1 rfl ?_
  by_cases hc1 : a1 < 48
  · rw [if_pos hc1] at h
    refine ay_t_pos (pc := 3) hc1 fe_108_3 rfl ?_
    refine ay_t_stk (pc := 16) (S' := [.int 0]) fe_108_16 rfl ?_
    cases h
    exact ay_t_iret fe_108_17 rfl rfl
  · rw [if_neg hc1] at h
    refine ay_t_neg (pc := 3) hc1 fe_108_3 rfl ?_
    refine ay_t_loc (pc := 6) fe_108_6 rfl ?_
    refine ay_t_stk (pc := 7) (S' := [.int 57, .int a1]) fe_108_7 rfl ?_
    by_cases hc2 : 57 < a1
    · rw [if_pos hc2] at h
      refine ay_t_pos (pc := 9) hc2 fe_108_9 rfl ?_
      refine ay_t_stk (pc := 16) (S' := [.int 0]) fe_108_16 rfl ?_
      cases h
      exact ay_t_iret fe_108_17 rfl rfl
    · rw [if_neg hc2] at h
      refine ay_t_neg (pc := 9) hc2 fe_108_9 rfl ?_
      refine ay_t_stk (pc := 12) (S' := [.int 1]) fe_108_12 rfl ?_
      refine ay_t_br (pc := 13) (pc' := 17) fe_108_13 rfl ?_
      cases h
      exact ay_t_iret fe_108_17 rfl rfl
def fn_109 (a1 : Int32) (D : am_DD) : Option (Int32 × am_DD) := (if (rw_at (D 49) 20 (D 45 3)) = 100 then (match fn_108 a1 D with | none => none | some (y2, D3) => (if y2 = 0 then some (0, D3) else (if 1 ≤ (a1 - 48) then some (1, (am_upd (rw_put D3 51 20 (D3 45 3) (a1 - 48)) 45 2 2)) else some (0, D3)))) else (if ¬ (rw_at (D 49) 20 (D 45 3)) = 116 then (match fn_108 a1 D with | none => none | some (y8, D9) => (if y8 = 0 then some (0, D9) else (if 0 ≤ (a1 - 48) then some (1, (am_upd (rw_put D9 51 20 (D9 45 3) (a1 - 48)) 45 2 2)) else some (0, D9)))) else (match fn_108 a1 D with | none => none | some (y13, D14) => (if y13 = 0 then some (0, D14) else (if 1 ≤ (a1 - 48) then some (1, (am_upd (rw_put D14 51 20 (D14 45 3) (a1 - 48)) 45 2 2)) else some (0, D14))))))
set_option maxHeartbeats 2000000 in
theorem ev_109 {a1 : Int32} {D : am_DD} {y : Int32} {Z : am_DD} (h : fn_109 a1 D = some (y, Z)) : ay_mo 109 [.ref 45, .int a1] D (.inl (some (.int y))) Z := by
  unfold fn_109 at h
  refine ay_m_of (L := [some (.ref 45), some (.int a1), none, none]) rfl ?_
  refine ay_t_loc (pc := 0) fe_109_0 rfl ?_
  refine ay_t_getR (pc := 1) (w := .ref 48) fe_109_1 at_45 (by decide +kernel) rfl ?_
  refine ay_t_loc (pc := 4) fe_109_4 rfl ?_
  refine ay_t_getI (pc := 5) fe_109_5 at_45 (by decide +kernel) rfl ?_
  refine ay_t_call (pc := 8) (w := some (.int (rw_at (D 49) 20 (D 45 3)))) fe_109_8 (ay_args [.ref 48, .int (D 45 3)] [] rfl rfl (Nat.le_of_ble_eq_true rfl) (Nat.le_of_ble_eq_true rfl)) (ay_rcvV at_48 rfl) (mt_at at_48 at_49 (by decide)) ?_
  refine ay_t_loc (pc := 11) (L' := [some (.ref 45), some (.int a1), some (.int (rw_at (D 49) 20 (D 45 3))), none]) fe_109_11 rfl ?_
  refine ay_t_loc (pc := 12) fe_109_12 rfl ?_
  refine ay_t_stk (pc := 13) (S' := [.int 100, .int (rw_at (D 49) 20 (D 45 3))]) fe_109_13 rfl ?_
  by_cases hc1 : (rw_at (D 49) 20 (D 45 3)) = 100
  · rw [if_pos hc1] at h
    refine ay_t_pos (pc := 15) hc1 fe_109_15 rfl ?_
    refine ay_t_stk (pc := 24) (S' := [.int 1]) fe_109_24 rfl ?_
    refine ay_t_br (pc := 25) (pc' := 29) fe_109_25 rfl ?_
    refine ay_t_loc (pc := 29) (L' := [some (.ref 45), some (.int a1), some (.int (rw_at (D 49) 20 (D 45 3))), some (.int 1)]) fe_109_29 rfl ?_
    refine ay_t_loc (pc := 30) fe_109_30 rfl ?_
    cases hk4 : fn_108 a1 D with
    | none => rw [hk4] at h; cases h
    | some z =>
      obtain ⟨y2, D3⟩ := z
      rw [hk4] at h
      dsimp only at h
      refine ay_t_call (pc := 31) (w := some (.int y2)) fe_109_31 (ay_args [.int a1] [] rfl rfl (Nat.le_of_ble_eq_true rfl) (Nat.le_of_ble_eq_true rfl)) rfl (ev_108 hk4) ?_
      by_cases hc5 : y2 = 0
      · rw [if_pos hc5] at h
        refine ay_t_pos (pc := 34) hc5 fe_109_34 rfl ?_
        refine ay_t_stk (pc := 45) (S' := [.int 0]) fe_109_45 rfl ?_
        cases h
        exact ay_t_iret fe_109_46 rfl rfl
      · rw [if_neg hc5] at h
        refine ay_t_neg (pc := 34) hc5 fe_109_34 rfl ?_
        refine ay_t_loc (pc := 37) fe_109_37 rfl ?_
        refine ay_t_stk (pc := 38) (S' := [.int 48, .int a1]) fe_109_38 rfl ?_
        refine ay_t_stk (pc := 40) (S' := [.int (a1 - 48)]) fe_109_40 rfl ?_
        refine ay_t_loc (pc := 41) fe_109_41 rfl ?_
        by_cases hc6 : 1 ≤ (a1 - 48)
        · rw [if_pos hc6] at h
          refine ay_t_pos (pc := 42) hc6 fe_109_42 rfl ?_
          refine ay_t_loc (pc := 47) fe_109_47 rfl ?_
          refine ay_t_getR (pc := 48) (w := .ref 50) fe_109_48 at_45 (by decide +kernel) rfl ?_
          refine ay_t_loc (pc := 51) fe_109_51 rfl ?_
          refine ay_t_getI (pc := 52) fe_109_52 at_45 (by decide +kernel) rfl ?_
          refine ay_t_loc (pc := 55) fe_109_55 rfl ?_
          refine ay_t_stk (pc := 56) (S' := [.int 48, .int a1, .int (D3 45 3), .ref 50]) fe_109_56 rfl ?_
          refine ay_t_stk (pc := 58) (S' := [.int (a1 - 48), .int (D3 45 3), .ref 50]) fe_109_58 rfl ?_
          refine ay_t_call (pc := 59) (w := none) fe_109_59 (ay_args [.ref 50, .int (D3 45 3), .int (a1 - 48)] [] rfl rfl (Nat.le_of_ble_eq_true rfl) (Nat.le_of_ble_eq_true rfl)) (ay_rcvV at_50 rfl) (mt_put at_50 at_51 (by decide)) ?_
          refine ay_t_loc (pc := 62) fe_109_62 rfl ?_
          refine ay_t_stk (pc := 63) (S' := [.int 2, .ref 45]) fe_109_63 rfl ?_
          refine ay_t_put (pc := 64) fe_109_64 at_45 (by decide +kernel) rfl rfl ?_
          refine ay_t_stk (pc := 67) (S' := [.int 1]) fe_109_67 rfl ?_
          cases h
          exact ay_t_iret fe_109_68 rfl rfl
        · rw [if_neg hc6] at h
          refine ay_t_neg (pc := 42) hc6 fe_109_42 rfl ?_
          refine ay_t_stk (pc := 45) (S' := [.int 0]) fe_109_45 rfl ?_
          cases h
          exact ay_t_iret fe_109_46 rfl rfl
  · rw [if_neg hc1] at h
    refine ay_t_neg (pc := 15) hc1 fe_109_15 rfl ?_
    refine ay_t_loc (pc := 18) fe_109_18 rfl ?_
    refine ay_t_stk (pc := 19) (S' := [.int 116, .int (rw_at (D 49) 20 (D 45 3))]) fe_109_19 rfl ?_
    by_cases hc7 : ¬ (rw_at (D 49) 20 (D 45 3)) = 116
    · rw [if_pos hc7] at h
      refine ay_t_pos (pc := 21) hc7 fe_109_21 rfl ?_
      refine ay_t_stk (pc := 28) (S' := [.int 0]) fe_109_28 rfl ?_
      refine ay_t_loc (pc := 29) (L' := [some (.ref 45), some (.int a1), some (.int (rw_at (D 49) 20 (D 45 3))), some (.int 0)]) fe_109_29 rfl ?_
      refine ay_t_loc (pc := 30) fe_109_30 rfl ?_
      cases hk10 : fn_108 a1 D with
      | none => rw [hk10] at h; cases h
      | some z =>
        obtain ⟨y8, D9⟩ := z
        rw [hk10] at h
        dsimp only at h
        refine ay_t_call (pc := 31) (w := some (.int y8)) fe_109_31 (ay_args [.int a1] [] rfl rfl (Nat.le_of_ble_eq_true rfl) (Nat.le_of_ble_eq_true rfl)) rfl (ev_108 hk10) ?_
        by_cases hc11 : y8 = 0
        · rw [if_pos hc11] at h
          refine ay_t_pos (pc := 34) hc11 fe_109_34 rfl ?_
          refine ay_t_stk (pc := 45) (S' := [.int 0]) fe_109_45 rfl ?_
          cases h
          exact ay_t_iret fe_109_46 rfl rfl
        · rw [if_neg hc11] at h
          refine ay_t_neg (pc := 34) hc11 fe_109_34 rfl ?_
          refine ay_t_loc (pc := 37) fe_109_37 rfl ?_
          refine ay_t_stk (pc := 38) (S' := [.int 48, .int a1]) fe_109_38 rfl ?_
          refine ay_t_stk (pc := 40) (S' := [.int (a1 - 48)]) fe_109_40 rfl ?_
          refine ay_t_loc (pc := 41) fe_109_41 rfl ?_
          by_cases hc12 : 0 ≤ (a1 - 48)
          · rw [if_pos hc12] at h
            refine ay_t_pos (pc := 42) hc12 fe_109_42 rfl ?_
            refine ay_t_loc (pc := 47) fe_109_47 rfl ?_
            refine ay_t_getR (pc := 48) (w := .ref 50) fe_109_48 at_45 (by decide +kernel) rfl ?_
            refine ay_t_loc (pc := 51) fe_109_51 rfl ?_
            refine ay_t_getI (pc := 52) fe_109_52 at_45 (by decide +kernel) rfl ?_
            refine ay_t_loc (pc := 55) fe_109_55 rfl ?_
            refine ay_t_stk (pc := 56) (S' := [.int 48, .int a1, .int (D9 45 3), .ref 50]) fe_109_56 rfl ?_
            refine ay_t_stk (pc := 58) (S' := [.int (a1 - 48), .int (D9 45 3), .ref 50]) fe_109_58 rfl ?_
            refine ay_t_call (pc := 59) (w := none) fe_109_59 (ay_args [.ref 50, .int (D9 45 3), .int (a1 - 48)] [] rfl rfl (Nat.le_of_ble_eq_true rfl) (Nat.le_of_ble_eq_true rfl)) (ay_rcvV at_50 rfl) (mt_put at_50 at_51 (by decide)) ?_
            refine ay_t_loc (pc := 62) fe_109_62 rfl ?_
            refine ay_t_stk (pc := 63) (S' := [.int 2, .ref 45]) fe_109_63 rfl ?_
            refine ay_t_put (pc := 64) fe_109_64 at_45 (by decide +kernel) rfl rfl ?_
            refine ay_t_stk (pc := 67) (S' := [.int 1]) fe_109_67 rfl ?_
            cases h
            exact ay_t_iret fe_109_68 rfl rfl
          · rw [if_neg hc12] at h
            refine ay_t_neg (pc := 42) hc12 fe_109_42 rfl ?_
            refine ay_t_stk (pc := 45) (S' := [.int 0]) fe_109_45 rfl ?_
            cases h
            exact ay_t_iret fe_109_46 rfl rfl
    · rw [if_neg hc7] at h
      refine ay_t_neg (pc := 21) hc7 fe_109_21 rfl ?_
      refine ay_t_stk (pc := 24) (S' := [.int 1]) fe_109_24 rfl ?_
      refine ay_t_br (pc := 25) (pc' := 29) fe_109_25 rfl ?_
      refine ay_t_loc (pc := 29) (L' := [some (.ref 45), some (.int a1), some (.int (rw_at (D 49) 20 (D 45 3))), some (.int 1)]) fe_109_29 rfl ?_
      refine ay_t_loc (pc := 30) fe_109_30 rfl ?_
      cases hk15 : fn_108 a1 D with
      | none => rw [hk15] at h; cases h
      | some z =>
        obtain ⟨y13, D14⟩ := z
        rw [hk15] at h
        dsimp only at h
        refine ay_t_call (pc := 31) (w := some (.int y13)) fe_109_31 (ay_args [.int a1] [] rfl rfl (Nat.le_of_ble_eq_true rfl) (Nat.le_of_ble_eq_true rfl)) rfl (ev_108 hk15) ?_
        by_cases hc16 : y13 = 0
        · rw [if_pos hc16] at h
          refine ay_t_pos (pc := 34) hc16 fe_109_34 rfl ?_
          refine ay_t_stk (pc := 45) (S' := [.int 0]) fe_109_45 rfl ?_
          cases h
          exact ay_t_iret fe_109_46 rfl rfl
        · rw [if_neg hc16] at h
          refine ay_t_neg (pc := 34) hc16 fe_109_34 rfl ?_
          refine ay_t_loc (pc := 37) fe_109_37 rfl ?_
          refine ay_t_stk (pc := 38) (S' := [.int 48, .int a1]) fe_109_38 rfl ?_
          refine ay_t_stk (pc := 40) (S' := [.int (a1 - 48)]) fe_109_40 rfl ?_
          refine ay_t_loc (pc := 41) fe_109_41 rfl ?_
          by_cases hc17 : 1 ≤ (a1 - 48)
          · rw [if_pos hc17] at h
            refine ay_t_pos (pc := 42) hc17 fe_109_42 rfl ?_
            refine ay_t_loc (pc := 47) fe_109_47 rfl ?_
            refine ay_t_getR (pc := 48) (w := .ref 50) fe_109_48 at_45 (by decide +kernel) rfl ?_
            refine ay_t_loc (pc := 51) fe_109_51 rfl ?_
            refine ay_t_getI (pc := 52) fe_109_52 at_45 (by decide +kernel) rfl ?_
            refine ay_t_loc (pc := 55) fe_109_55 rfl ?_
            refine ay_t_stk (pc := 56) (S' := [.int 48, .int a1, .int (D14 45 3), .ref 50]) fe_109_56 rfl ?_
            refine ay_t_stk (pc := 58) (S' := [.int (a1 - 48), .int (D14 45 3), .ref 50]) fe_109_58 rfl ?_
            refine ay_t_call (pc := 59) (w := none) fe_109_59 (ay_args [.ref 50, .int (D14 45 3), .int (a1 - 48)] [] rfl rfl (Nat.le_of_ble_eq_true rfl) (Nat.le_of_ble_eq_true rfl)) (ay_rcvV at_50 rfl) (mt_put at_50 at_51 (by decide)) ?_
            refine ay_t_loc (pc := 62) fe_109_62 rfl ?_
            refine ay_t_stk (pc := 63) (S' := [.int 2, .ref 45]) fe_109_63 rfl ?_
            refine ay_t_put (pc := 64) fe_109_64 at_45 (by decide +kernel) rfl rfl ?_
            refine ay_t_stk (pc := 67) (S' := [.int 1]) fe_109_67 rfl ?_
            cases h
            exact ay_t_iret fe_109_68 rfl rfl
          · rw [if_neg hc17] at h
            refine ay_t_neg (pc := 42) hc17 fe_109_42 rfl ?_
            refine ay_t_stk (pc := 45) (S' := [.int 0]) fe_109_45 rfl ?_
            cases h
            exact ay_t_iret fe_109_46 rfl rfl
def fn_110 (a1 a2 a3 : Int32) (D : am_DD) : Option (Int32 × am_DD) := (if a1 = 0 then some ((-1), D) else (match fn_108 a2 D with | none => none | some (y2, D3) => (if y2 = 0 then some ((-1), D3) else (if (((a1 * 10) + a2) - 48) ≤ a3 then some ((((a1 * 10) + a2) - 48), D3) else some ((-1), D3)))))
set_option maxHeartbeats 2000000 in
theorem ev_110 {a1 a2 a3 : Int32} {D : am_DD} {y : Int32} {Z : am_DD} (h : fn_110 a1 a2 a3 D = some (y, Z)) : ay_mo 110 [.int a1, .int a2, .int a3] D (.inl (some (.int y))) Z := by
  unfold fn_110 at h
  refine ay_m_of (L := [some (.int a1), some (.int a2), some (.int a3)]) rfl ?_
  refine ay_t_loc (pc := 0) fe_110_0 rfl ?_
  by_cases hc1 : a1 = 0
  · rw [if_pos hc1] at h
    refine ay_t_pos (pc := 1) hc1 fe_110_1 rfl ?_
    refine ay_t_stk (pc := 24) (S' := [.int (-1)]) fe_110_24 rfl ?_
    cases h
    exact ay_t_iret fe_110_25 rfl rfl
  · rw [if_neg hc1] at h
    refine ay_t_neg (pc := 1) hc1 fe_110_1 rfl ?_
    refine ay_t_loc (pc := 4) fe_110_4 rfl ?_
    cases hk4 : fn_108 a2 D with
    | none => rw [hk4] at h; cases h
    | some z =>
      obtain ⟨y2, D3⟩ := z
      rw [hk4] at h
      dsimp only at h
      refine ay_t_call (pc := 5) (w := some (.int y2)) fe_110_5 (ay_args [.int a2] [] rfl rfl (Nat.le_of_ble_eq_true rfl) (Nat.le_of_ble_eq_true rfl)) rfl (ev_108 hk4) ?_
      by_cases hc5 : y2 = 0
      · rw [if_pos hc5] at h
        refine ay_t_pos (pc := 8) hc5 fe_110_8 rfl ?_
        refine ay_t_stk (pc := 24) (S' := [.int (-1)]) fe_110_24 rfl ?_
        cases h
        exact ay_t_iret fe_110_25 rfl rfl
      · rw [if_neg hc5] at h
        refine ay_t_neg (pc := 8) hc5 fe_110_8 rfl ?_
        refine ay_t_loc (pc := 11) fe_110_11 rfl ?_
        refine ay_t_stk (pc := 12) (S' := [.int 10, .int a1]) fe_110_12 rfl ?_
        refine ay_t_stk (pc := 14) (S' := [.int (a1 * 10)]) fe_110_14 rfl ?_
        refine ay_t_loc (pc := 15) fe_110_15 rfl ?_
        refine ay_t_stk (pc := 16) (S' := [.int ((a1 * 10) + a2)]) fe_110_16 rfl ?_
        refine ay_t_stk (pc := 17) (S' := [.int 48, .int ((a1 * 10) + a2)]) fe_110_17 rfl ?_
        refine ay_t_stk (pc := 19) (S' := [.int (((a1 * 10) + a2) - 48)]) fe_110_19 rfl ?_
        refine ay_t_loc (pc := 20) fe_110_20 rfl ?_
        by_cases hc6 : (((a1 * 10) + a2) - 48) ≤ a3
        · rw [if_pos hc6] at h
          refine ay_t_pos (pc := 21) hc6 fe_110_21 rfl ?_
          refine ay_t_loc (pc := 26) fe_110_26 rfl ?_
          refine ay_t_stk (pc := 27) (S' := [.int 10, .int a1]) fe_110_27 rfl ?_
          refine ay_t_stk (pc := 29) (S' := [.int (a1 * 10)]) fe_110_29 rfl ?_
          refine ay_t_loc (pc := 30) fe_110_30 rfl ?_
          refine ay_t_stk (pc := 31) (S' := [.int ((a1 * 10) + a2)]) fe_110_31 rfl ?_
          refine ay_t_stk (pc := 32) (S' := [.int 48, .int ((a1 * 10) + a2)]) fe_110_32 rfl ?_
          refine ay_t_stk (pc := 34) (S' := [.int (((a1 * 10) + a2) - 48)]) fe_110_34 rfl ?_
          cases h
          exact ay_t_iret fe_110_35 rfl rfl
        · rw [if_neg hc6] at h
          refine ay_t_neg (pc := 21) hc6 fe_110_21 rfl ?_
          refine ay_t_stk (pc := 24) (S' := [.int (-1)]) fe_110_24 rfl ?_
          cases h
          exact ay_t_iret fe_110_25 rfl rfl
def fn_111 (a1 : Int32) (D : am_DD) : Option (Int32 × am_DD) := (if a1 = 76 then (if ¬ a1 = 76 then some (1, (am_upd (rw_put D 53 20 (D 45 3) 1) 45 2 3)) else some (1, (am_upd (rw_put D 53 20 (D 45 3) 0) 45 2 3))) else (if a1 = 82 then (if ¬ a1 = 76 then some (1, (am_upd (rw_put D 53 20 (D 45 3) 1) 45 2 3)) else some (1, (am_upd (rw_put D 53 20 (D 45 3) 0) 45 2 3))) else some (0, D)))
set_option maxHeartbeats 2000000 in
theorem ev_111 {a1 : Int32} {D : am_DD} {y : Int32} {Z : am_DD} (h : fn_111 a1 D = some (y, Z)) : ay_mo 111 [.ref 45, .int a1] D (.inl (some (.int y))) Z := by
  unfold fn_111 at h
  refine ay_m_of (L := [some (.ref 45), some (.int a1)]) rfl ?_
  refine ay_t_loc (pc := 0) fe_111_0 rfl ?_
  refine ay_t_stk (pc := 1) (S' := [.int 76, .int a1]) fe_111_1 rfl ?_
  by_cases hc1 : a1 = 76
  · rw [if_pos hc1] at h
    refine ay_t_pos (pc := 3) hc1 fe_111_3 rfl ?_
    refine ay_t_loc (pc := 14) fe_111_14 rfl ?_
    refine ay_t_getR (pc := 15) (w := .ref 52) fe_111_15 at_45 (by decide +kernel) rfl ?_
    refine ay_t_loc (pc := 18) fe_111_18 rfl ?_
    refine ay_t_getI (pc := 19) fe_111_19 at_45 (by decide +kernel) rfl ?_
    refine ay_t_loc (pc := 22) fe_111_22 rfl ?_
    refine ay_t_stk (pc := 23) (S' := [.int 76, .int a1, .int (D 45 3), .ref 52]) fe_111_23 rfl ?_
    by_cases hc2 : ¬ a1 = 76
    · rw [if_pos hc2] at h
      refine ay_t_pos (pc := 25) hc2 fe_111_25 rfl ?_
      refine ay_t_stk (pc := 32) (S' := [.int 1, .int (D 45 3), .ref 52]) fe_111_32 rfl ?_
      refine ay_t_call (pc := 33) (w := none) fe_111_33 (ay_args [.ref 52, .int (D 45 3), .int 1] [] rfl rfl (Nat.le_of_ble_eq_true rfl) (Nat.le_of_ble_eq_true rfl)) (ay_rcvV at_52 rfl) (mt_put at_52 at_53 (by decide)) ?_
      refine ay_t_loc (pc := 36) fe_111_36 rfl ?_
      refine ay_t_stk (pc := 37) (S' := [.int 3, .ref 45]) fe_111_37 rfl ?_
      refine ay_t_put (pc := 38) fe_111_38 at_45 (by decide +kernel) rfl rfl ?_
      refine ay_t_stk (pc := 41) (S' := [.int 1]) fe_111_41 rfl ?_
      cases h
      exact ay_t_iret fe_111_42 rfl rfl
    · rw [if_neg hc2] at h
      refine ay_t_neg (pc := 25) hc2 fe_111_25 rfl ?_
      refine ay_t_stk (pc := 28) (S' := [.int 0, .int (D 45 3), .ref 52]) fe_111_28 rfl ?_
      refine ay_t_br (pc := 29) (pc' := 33) fe_111_29 rfl ?_
      refine ay_t_call (pc := 33) (w := none) fe_111_33 (ay_args [.ref 52, .int (D 45 3), .int 0] [] rfl rfl (Nat.le_of_ble_eq_true rfl) (Nat.le_of_ble_eq_true rfl)) (ay_rcvV at_52 rfl) (mt_put at_52 at_53 (by decide)) ?_
      refine ay_t_loc (pc := 36) fe_111_36 rfl ?_
      refine ay_t_stk (pc := 37) (S' := [.int 3, .ref 45]) fe_111_37 rfl ?_
      refine ay_t_put (pc := 38) fe_111_38 at_45 (by decide +kernel) rfl rfl ?_
      refine ay_t_stk (pc := 41) (S' := [.int 1]) fe_111_41 rfl ?_
      cases h
      exact ay_t_iret fe_111_42 rfl rfl
  · rw [if_neg hc1] at h
    refine ay_t_neg (pc := 3) hc1 fe_111_3 rfl ?_
    refine ay_t_loc (pc := 6) fe_111_6 rfl ?_
    refine ay_t_stk (pc := 7) (S' := [.int 82, .int a1]) fe_111_7 rfl ?_
    by_cases hc3 : a1 = 82
    · rw [if_pos hc3] at h
      refine ay_t_pos (pc := 9) hc3 fe_111_9 rfl ?_
      refine ay_t_loc (pc := 14) fe_111_14 rfl ?_
      refine ay_t_getR (pc := 15) (w := .ref 52) fe_111_15 at_45 (by decide +kernel) rfl ?_
      refine ay_t_loc (pc := 18) fe_111_18 rfl ?_
      refine ay_t_getI (pc := 19) fe_111_19 at_45 (by decide +kernel) rfl ?_
      refine ay_t_loc (pc := 22) fe_111_22 rfl ?_
      refine ay_t_stk (pc := 23) (S' := [.int 76, .int a1, .int (D 45 3), .ref 52]) fe_111_23 rfl ?_
      by_cases hc4 : ¬ a1 = 76
      · rw [if_pos hc4] at h
        refine ay_t_pos (pc := 25) hc4 fe_111_25 rfl ?_
        refine ay_t_stk (pc := 32) (S' := [.int 1, .int (D 45 3), .ref 52]) fe_111_32 rfl ?_
        refine ay_t_call (pc := 33) (w := none) fe_111_33 (ay_args [.ref 52, .int (D 45 3), .int 1] [] rfl rfl (Nat.le_of_ble_eq_true rfl) (Nat.le_of_ble_eq_true rfl)) (ay_rcvV at_52 rfl) (mt_put at_52 at_53 (by decide)) ?_
        refine ay_t_loc (pc := 36) fe_111_36 rfl ?_
        refine ay_t_stk (pc := 37) (S' := [.int 3, .ref 45]) fe_111_37 rfl ?_
        refine ay_t_put (pc := 38) fe_111_38 at_45 (by decide +kernel) rfl rfl ?_
        refine ay_t_stk (pc := 41) (S' := [.int 1]) fe_111_41 rfl ?_
        cases h
        exact ay_t_iret fe_111_42 rfl rfl
      · rw [if_neg hc4] at h
        refine ay_t_neg (pc := 25) hc4 fe_111_25 rfl ?_
        refine ay_t_stk (pc := 28) (S' := [.int 0, .int (D 45 3), .ref 52]) fe_111_28 rfl ?_
        refine ay_t_br (pc := 29) (pc' := 33) fe_111_29 rfl ?_
        refine ay_t_call (pc := 33) (w := none) fe_111_33 (ay_args [.ref 52, .int (D 45 3), .int 0] [] rfl rfl (Nat.le_of_ble_eq_true rfl) (Nat.le_of_ble_eq_true rfl)) (ay_rcvV at_52 rfl) (mt_put at_52 at_53 (by decide)) ?_
        refine ay_t_loc (pc := 36) fe_111_36 rfl ?_
        refine ay_t_stk (pc := 37) (S' := [.int 3, .ref 45]) fe_111_37 rfl ?_
        refine ay_t_put (pc := 38) fe_111_38 at_45 (by decide +kernel) rfl rfl ?_
        refine ay_t_stk (pc := 41) (S' := [.int 1]) fe_111_41 rfl ?_
        cases h
        exact ay_t_iret fe_111_42 rfl rfl
    · rw [if_neg hc3] at h
      refine ay_t_neg (pc := 9) hc3 fe_111_9 rfl ?_
      refine ay_t_stk (pc := 12) (S' := [.int 0]) fe_111_12 rfl ?_
      cases h
      exact ay_t_iret fe_111_13 rfl rfl
def fn_112 (a1 : Int32) (D : am_DD) : Option (Int32 × am_DD) := (match fn_106 (rw_at (D 49) 20 (D 45 3)) D with | none => none | some (y1, D2) => (match fn_110 (rw_at (D 51) 20 (D 45 3)) a1 y1 D2 with | none => none | some (y4, D5) => (if y4 < 0 then (if ¬ (rw_at (D 49) 20 (D 45 3)) = 101 then some (0, D5) else (match fn_111 a1 D5 with | none => none | some (y9, D10) => (if y9 = 0 then some (0, D10) else some (1, D10)))) else some (1, (rw_put D5 51 20 (D5 45 3) y4)))))
set_option maxHeartbeats 2000000 in
theorem ev_112 {a1 : Int32} {D : am_DD} {y : Int32} {Z : am_DD} (h : fn_112 a1 D = some (y, Z)) : ay_mo 112 [.ref 45, .int a1] D (.inl (some (.int y))) Z := by
  unfold fn_112 at h
  refine ay_m_of (L := [some (.ref 45), some (.int a1), none, none]) rfl ?_
  refine ay_t_loc (pc := 0) fe_112_0 rfl ?_
  refine ay_t_getR (pc := 1) (w := .ref 48) fe_112_1 at_45 (by decide +kernel) rfl ?_
  refine ay_t_loc (pc := 4) fe_112_4 rfl ?_
  refine ay_t_getI (pc := 5) fe_112_5 at_45 (by decide +kernel) rfl ?_
  refine ay_t_call (pc := 8) (w := some (.int (rw_at (D 49) 20 (D 45 3)))) fe_112_8 (ay_args [.ref 48, .int (D 45 3)] [] rfl rfl (Nat.le_of_ble_eq_true rfl) (Nat.le_of_ble_eq_true rfl)) (ay_rcvV at_48 rfl) (mt_at at_48 at_49 (by decide)) ?_
  refine ay_t_loc (pc := 11) (L' := [some (.ref 45), some (.int a1), some (.int (rw_at (D 49) 20 (D 45 3))), none]) fe_112_11 rfl ?_
  refine ay_t_loc (pc := 12) fe_112_12 rfl ?_
  refine ay_t_getR (pc := 13) (w := .ref 50) fe_112_13 at_45 (by decide +kernel) rfl ?_
  refine ay_t_loc (pc := 16) fe_112_16 rfl ?_
  refine ay_t_getI (pc := 17) fe_112_17 at_45 (by decide +kernel) rfl ?_
  refine ay_t_call (pc := 20) (w := some (.int (rw_at (D 51) 20 (D 45 3)))) fe_112_20 (ay_args [.ref 50, .int (D 45 3)] [] rfl rfl (Nat.le_of_ble_eq_true rfl) (Nat.le_of_ble_eq_true rfl)) (ay_rcvV at_50 rfl) (mt_at at_50 at_51 (by decide)) ?_
  refine ay_t_loc (pc := 23) fe_112_23 rfl ?_
  refine ay_t_loc (pc := 24) fe_112_24 rfl ?_
  cases hk3 : fn_106 (rw_at (D 49) 20 (D 45 3)) D with
  | none => rw [hk3] at h; cases h
  | some z =>
    obtain ⟨y1, D2⟩ := z
    rw [hk3] at h
    dsimp only at h
    refine ay_t_call (pc := 25) (w := some (.int y1)) fe_112_25 (ay_args [.int (rw_at (D 49) 20 (D 45 3))] [.int a1, .int (rw_at (D 51) 20 (D 45 3))] rfl rfl (Nat.le_of_ble_eq_true rfl) (Nat.le_of_ble_eq_true rfl)) rfl (ev_106 hk3) ?_
    cases hk6 : fn_110 (rw_at (D 51) 20 (D 45 3)) a1 y1 D2 with
    | none => rw [hk6] at h; cases h
    | some z =>
      obtain ⟨y4, D5⟩ := z
      rw [hk6] at h
      dsimp only at h
      refine ay_t_call (pc := 28) (w := some (.int y4)) fe_112_28 (ay_args [.int (rw_at (D 51) 20 (D 45 3)), .int a1, .int y1] [] rfl rfl (Nat.le_of_ble_eq_true rfl) (Nat.le_of_ble_eq_true rfl)) rfl (ev_110 hk6) ?_
      refine ay_t_loc (pc := 31) (L' := [some (.ref 45), some (.int a1), some (.int (rw_at (D 49) 20 (D 45 3))), some (.int y4)]) fe_112_31 rfl ?_
      refine ay_t_loc (pc := 32) fe_112_32 rfl ?_
      by_cases hc7 : y4 < 0
      · rw [if_pos hc7] at h
        refine ay_t_pos (pc := 33) hc7 fe_112_33 rfl ?_
        refine ay_t_loc (pc := 50) fe_112_50 rfl ?_
        refine ay_t_stk (pc := 51) (S' := [.int 101, .int (rw_at (D 49) 20 (D 45 3))]) fe_112_51 rfl ?_
        by_cases hc8 : ¬ (rw_at (D 49) 20 (D 45 3)) = 101
        · rw [if_pos hc8] at h
          refine ay_t_pos (pc := 53) hc8 fe_112_53 rfl ?_
          refine ay_t_stk (pc := 68) (S' := [.int 0]) fe_112_68 rfl ?_
          cases h
          exact ay_t_iret fe_112_69 rfl rfl
        · rw [if_neg hc8] at h
          refine ay_t_neg (pc := 53) hc8 fe_112_53 rfl ?_
          refine ay_t_loc (pc := 56) fe_112_56 rfl ?_
          refine ay_t_loc (pc := 57) fe_112_57 rfl ?_
          cases hk11 : fn_111 a1 D5 with
          | none => rw [hk11] at h; cases h
          | some z =>
            obtain ⟨y9, D10⟩ := z
            rw [hk11] at h
            dsimp only at h
            refine ay_t_call (pc := 58) (w := some (.int y9)) fe_112_58 (ay_args [.ref 45, .int a1] [] rfl rfl (Nat.le_of_ble_eq_true rfl) (Nat.le_of_ble_eq_true rfl)) (ay_rcvV at_45 rfl) (ev_111 hk11) ?_
            by_cases hc12 : y9 = 0
            · rw [if_pos hc12] at h
              refine ay_t_pos (pc := 61) hc12 fe_112_61 rfl ?_
              refine ay_t_stk (pc := 68) (S' := [.int 0]) fe_112_68 rfl ?_
              cases h
              exact ay_t_iret fe_112_69 rfl rfl
            · rw [if_neg hc12] at h
              refine ay_t_neg (pc := 61) hc12 fe_112_61 rfl ?_
              refine ay_t_stk (pc := 64) (S' := [.int 1]) fe_112_64 rfl ?_
              refine ay_t_br (pc := 65) (pc' := 69) fe_112_65 rfl ?_
              cases h
              exact ay_t_iret fe_112_69 rfl rfl
      · rw [if_neg hc7] at h
        refine ay_t_neg (pc := 33) hc7 fe_112_33 rfl ?_
        refine ay_t_loc (pc := 36) fe_112_36 rfl ?_
        refine ay_t_getR (pc := 37) (w := .ref 50) fe_112_37 at_45 (by decide +kernel) rfl ?_
        refine ay_t_loc (pc := 40) fe_112_40 rfl ?_
        refine ay_t_getI (pc := 41) fe_112_41 at_45 (by decide +kernel) rfl ?_
        refine ay_t_loc (pc := 44) fe_112_44 rfl ?_
        refine ay_t_call (pc := 45) (w := none) fe_112_45 (ay_args [.ref 50, .int (D5 45 3), .int y4] [] rfl rfl (Nat.le_of_ble_eq_true rfl) (Nat.le_of_ble_eq_true rfl)) (ay_rcvV at_50 rfl) (mt_put at_50 at_51 (by decide)) ?_
        refine ay_t_stk (pc := 48) (S' := [.int 1]) fe_112_48 rfl ?_
        cases h
        exact ay_t_iret fe_112_49 rfl rfl
def fn_113 (a1 : Int32) (D : am_DD) : Option (Int32 × am_DD) := (if ¬ a1 = 98 then (match fn_108 a1 D with | none => none | some (y2, D3) => (if ¬ y2 = 0 then some (1, (am_upd (rw_put D3 55 20 (D3 45 3) (a1 - 48)) 45 2 4)) else some (0, D3))) else some (1, (am_upd D 45 2 5)))
set_option maxHeartbeats 2000000 in
theorem ev_113 {a1 : Int32} {D : am_DD} {y : Int32} {Z : am_DD} (h : fn_113 a1 D = some (y, Z)) : ay_mo 113 [.ref 45, .int a1] D (.inl (some (.int y))) Z := by
  unfold fn_113 at h
  refine ay_m_of (L := [some (.ref 45), some (.int a1)]) rfl ?_
  refine ay_t_loc (pc := 0) fe_113_0 rfl ?_
  refine ay_t_stk (pc := 1) (S' := [.int 98, .int a1]) fe_113_1 rfl ?_
  by_cases hc1 : ¬ a1 = 98
  · rw [if_pos hc1] at h
    refine ay_t_pos (pc := 3) hc1 fe_113_3 rfl ?_
    refine ay_t_loc (pc := 13) fe_113_13 rfl ?_
    cases hk4 : fn_108 a1 D with
    | none => rw [hk4] at h; cases h
    | some z =>
      obtain ⟨y2, D3⟩ := z
      rw [hk4] at h
      dsimp only at h
      refine ay_t_call (pc := 14) (w := some (.int y2)) fe_113_14 (ay_args [.int a1] [] rfl rfl (Nat.le_of_ble_eq_true rfl) (Nat.le_of_ble_eq_true rfl)) rfl (ev_108 hk4) ?_
      by_cases hc5 : ¬ y2 = 0
      · rw [if_pos hc5] at h
        refine ay_t_pos (pc := 17) hc5 fe_113_17 rfl ?_
        refine ay_t_loc (pc := 22) fe_113_22 rfl ?_
        refine ay_t_getR (pc := 23) (w := .ref 54) fe_113_23 at_45 (by decide +kernel) rfl ?_
        refine ay_t_loc (pc := 26) fe_113_26 rfl ?_
        refine ay_t_getI (pc := 27) fe_113_27 at_45 (by decide +kernel) rfl ?_
        refine ay_t_loc (pc := 30) fe_113_30 rfl ?_
        refine ay_t_stk (pc := 31) (S' := [.int 48, .int a1, .int (D3 45 3), .ref 54]) fe_113_31 rfl ?_
        refine ay_t_stk (pc := 33) (S' := [.int (a1 - 48), .int (D3 45 3), .ref 54]) fe_113_33 rfl ?_
        refine ay_t_call (pc := 34) (w := none) fe_113_34 (ay_args [.ref 54, .int (D3 45 3), .int (a1 - 48)] [] rfl rfl (Nat.le_of_ble_eq_true rfl) (Nat.le_of_ble_eq_true rfl)) (ay_rcvV at_54 rfl) (mt_put at_54 at_55 (by decide)) ?_
        refine ay_t_loc (pc := 37) fe_113_37 rfl ?_
        refine ay_t_stk (pc := 38) (S' := [.int 4, .ref 45]) fe_113_38 rfl ?_
        refine ay_t_put (pc := 39) fe_113_39 at_45 (by decide +kernel) rfl rfl ?_
        refine ay_t_stk (pc := 42) (S' := [.int 1]) fe_113_42 rfl ?_
        cases h
        exact ay_t_iret fe_113_43 rfl rfl
      · rw [if_neg hc5] at h
        refine ay_t_neg (pc := 17) hc5 fe_113_17 rfl ?_
        refine ay_t_stk (pc := 20) (S' := [.int 0]) fe_113_20 rfl ?_
        cases h
        exact ay_t_iret fe_113_21 rfl rfl
  · rw [if_neg hc1] at h
    refine ay_t_neg (pc := 3) hc1 fe_113_3 rfl ?_
    refine ay_t_loc (pc := 6) fe_113_6 rfl ?_
    refine ay_t_stk (pc := 7) (S' := [.int 5, .ref 45]) fe_113_7 rfl ?_
    refine ay_t_put (pc := 8) fe_113_8 at_45 (by decide +kernel) rfl rfl ?_
    refine ay_t_stk (pc := 11) (S' := [.int 1]) fe_113_11 rfl ?_
    cases h
    exact ay_t_iret fe_113_12 rfl rfl
def fn_114 (a1 : Int32) (D : am_DD) : Option (Int32 × am_DD) := (match fn_110 (rw_at (D 55) 20 (D 45 3)) a1 11 D with | none => none | some (y1, D2) => (if 0 ≤ y1 then some (1, (rw_put D2 55 20 (D2 45 3) y1)) else some (0, D2)))
set_option maxHeartbeats 2000000 in
theorem ev_114 {a1 : Int32} {D : am_DD} {y : Int32} {Z : am_DD} (h : fn_114 a1 D = some (y, Z)) : ay_mo 114 [.ref 45, .int a1] D (.inl (some (.int y))) Z := by
  unfold fn_114 at h
  refine ay_m_of (L := [some (.ref 45), some (.int a1), none]) rfl ?_
  refine ay_t_loc (pc := 0) fe_114_0 rfl ?_
  refine ay_t_getR (pc := 1) (w := .ref 54) fe_114_1 at_45 (by decide +kernel) rfl ?_
  refine ay_t_loc (pc := 4) fe_114_4 rfl ?_
  refine ay_t_getI (pc := 5) fe_114_5 at_45 (by decide +kernel) rfl ?_
  refine ay_t_call (pc := 8) (w := some (.int (rw_at (D 55) 20 (D 45 3)))) fe_114_8 (ay_args [.ref 54, .int (D 45 3)] [] rfl rfl (Nat.le_of_ble_eq_true rfl) (Nat.le_of_ble_eq_true rfl)) (ay_rcvV at_54 rfl) (mt_at at_54 at_55 (by decide)) ?_
  refine ay_t_loc (pc := 11) fe_114_11 rfl ?_
  refine ay_t_stk (pc := 12) (S' := [.int 11, .int a1, .int (rw_at (D 55) 20 (D 45 3))]) fe_114_12 rfl ?_
  cases hk3 : fn_110 (rw_at (D 55) 20 (D 45 3)) a1 11 D with
  | none => rw [hk3] at h; cases h
  | some z =>
    obtain ⟨y1, D2⟩ := z
    rw [hk3] at h
    dsimp only at h
    refine ay_t_call (pc := 14) (w := some (.int y1)) fe_114_14 (ay_args [.int (rw_at (D 55) 20 (D 45 3)), .int a1, .int 11] [] rfl rfl (Nat.le_of_ble_eq_true rfl) (Nat.le_of_ble_eq_true rfl)) rfl (ev_110 hk3) ?_
    refine ay_t_loc (pc := 17) (L' := [some (.ref 45), some (.int a1), some (.int y1)]) fe_114_17 rfl ?_
    refine ay_t_loc (pc := 18) fe_114_18 rfl ?_
    by_cases hc4 : 0 ≤ y1
    · rw [if_pos hc4] at h
      refine ay_t_pos (pc := 19) hc4 fe_114_19 rfl ?_
      refine ay_t_loc (pc := 24) fe_114_24 rfl ?_
      refine ay_t_getR (pc := 25) (w := .ref 54) fe_114_25 at_45 (by decide +kernel) rfl ?_
      refine ay_t_loc (pc := 28) fe_114_28 rfl ?_
      refine ay_t_getI (pc := 29) fe_114_29 at_45 (by decide +kernel) rfl ?_
      refine ay_t_loc (pc := 32) fe_114_32 rfl ?_
      refine ay_t_call (pc := 33) (w := none) fe_114_33 (ay_args [.ref 54, .int (D2 45 3), .int y1] [] rfl rfl (Nat.le_of_ble_eq_true rfl) (Nat.le_of_ble_eq_true rfl)) (ay_rcvV at_54 rfl) (mt_put at_54 at_55 (by decide)) ?_
      refine ay_t_stk (pc := 36) (S' := [.int 1]) fe_114_36 rfl ?_
      cases h
      exact ay_t_iret fe_114_37 rfl rfl
    · rw [if_neg hc4] at h
      refine ay_t_neg (pc := 19) hc4 fe_114_19 rfl ?_
      refine ay_t_stk (pc := 22) (S' := [.int 0]) fe_114_22 rfl ?_
      cases h
      exact ay_t_iret fe_114_23 rfl rfl
