/-! methods as functions, with what am_run does (written by wip/whole/gen6.py) -/
def fn_115 (a1 : Int32) (D : am_DD) : Option (Int32 × am_DD) := (match fn_108 a1 D with | none => none | some (y1, D2) => (if y1 = 0 then some (0, D2) else (if (a1 - 48) < 5 then some (1, (am_upd (rw_put D2 55 20 (D2 45 3) ((20 + a1) - 48)) 45 2 6)) else some (0, D2))))
set_option maxHeartbeats 2000000 in
theorem ev_115 {a1 : Int32} {D : am_DD} {y : Int32} {Z : am_DD} (h : fn_115 a1 D = some (y, Z)) : ay_mo 115 [.ref 45, .int a1] D (.inl (some (.int y))) Z := by
  unfold fn_115 at h
  refine ay_m_of (L := [some (.ref 45), some (.int a1)]) rfl ?_
  refine ay_t_loc (pc := 0) fe_115_0 rfl ?_
  cases hk3 : fn_108 a1 D with
  | none => rw [hk3] at h; cases h
  | some z =>
    obtain ⟨y1, D2⟩ := z
    rw [hk3] at h
    dsimp only at h
    refine ay_t_call (pc := 1) (w := some (.int y1)) fe_115_1 (ay_args [.int a1] [] rfl rfl (Nat.le_of_ble_eq_true rfl) (Nat.le_of_ble_eq_true rfl)) rfl (ev_108 hk3) ?_
    by_cases hc4 : y1 = 0
    · rw [if_pos hc4] at h
      refine ay_t_pos (pc := 4) hc4 fe_115_4 rfl ?_
      refine ay_t_stk (pc := 15) (S' := [.int 0]) fe_115_15 rfl ?_
      cases h
      exact ay_t_iret fe_115_16 rfl rfl
    · rw [if_neg hc4] at h
      refine ay_t_neg (pc := 4) hc4 fe_115_4 rfl ?_
      refine ay_t_loc (pc := 7) fe_115_7 rfl ?_
      refine ay_t_stk (pc := 8) (S' := [.int 48, .int a1]) fe_115_8 rfl ?_
      refine ay_t_stk (pc := 10) (S' := [.int (a1 - 48)]) fe_115_10 rfl ?_
      refine ay_t_stk (pc := 11) (S' := [.int 5, .int (a1 - 48)]) fe_115_11 rfl ?_
      by_cases hc5 : (a1 - 48) < 5
      · rw [if_pos hc5] at h
        refine ay_t_pos (pc := 12) hc5 fe_115_12 rfl ?_
        refine ay_t_loc (pc := 17) fe_115_17 rfl ?_
        refine ay_t_getR (pc := 18) (w := .ref 54) fe_115_18 at_45 (by decide +kernel) rfl ?_
        refine ay_t_loc (pc := 21) fe_115_21 rfl ?_
        refine ay_t_getI (pc := 22) fe_115_22 at_45 (by decide +kernel) rfl ?_
        refine ay_t_stk (pc := 25) (S' := [.int 20, .int (D2 45 3), .ref 54]) fe_115_25 rfl ?_
        refine ay_t_loc (pc := 27) fe_115_27 rfl ?_
        refine ay_t_stk (pc := 28) (S' := [.int (20 + a1), .int (D2 45 3), .ref 54]) fe_115_28 rfl ?_
        refine ay_t_stk (pc := 29) (S' := [.int 48, .int (20 + a1), .int (D2 45 3), .ref 54]) fe_115_29 rfl ?_
        refine ay_t_stk (pc := 31) (S' := [.int ((20 + a1) - 48), .int (D2 45 3), .ref 54]) fe_115_31 rfl ?_
        refine ay_t_call (pc := 32) (w := none) fe_115_32 (ay_args [.ref 54, .int (D2 45 3), .int ((20 + a1) - 48)] [] rfl rfl (Nat.le_of_ble_eq_true rfl) (Nat.le_of_ble_eq_true rfl)) (ay_rcvV at_54 rfl) (mt_put at_54 at_55 (by decide)) ?_
        refine ay_t_loc (pc := 35) fe_115_35 rfl ?_
        refine ay_t_stk (pc := 36) (S' := [.int 6, .ref 45]) fe_115_36 rfl ?_
        refine ay_t_put (pc := 38) fe_115_38 at_45 (by decide +kernel) rfl rfl ?_
        refine ay_t_stk (pc := 41) (S' := [.int 1]) fe_115_41 rfl ?_
        cases h
        exact ay_t_iret fe_115_42 rfl rfl
      · rw [if_neg hc5] at h
        refine ay_t_neg (pc := 12) hc5 fe_115_12 rfl ?_
        refine ay_t_stk (pc := 15) (S' := [.int 0]) fe_115_15 rfl ?_
        cases h
        exact ay_t_iret fe_115_16 rfl rfl
def fn_116 (a1 : Int32) (D : am_DD) : Option (Int32 × am_DD) := (if ¬ a1 = 59 then (if (D 45 2) = 0 then (match fn_107 a1 D with | none => none | some (y3, D4) => (if ay_isb y3 then some (y3, D4) else none)) else (if (D 45 2) = 1 then (match fn_109 a1 D with | none => none | some (y8, D9) => (if ay_isb y8 then some (y8, D9) else none)) else (if (D 45 2) = 2 then (match fn_112 a1 D with | none => none | some (y13, D14) => (if ay_isb y13 then some (y13, D14) else none)) else (if (D 45 2) = 3 then (match fn_113 a1 D with | none => none | some (y18, D19) => (if ay_isb y18 then some (y18, D19) else none)) else (if (D 45 2) = 4 then (match fn_114 a1 D with | none => none | some (y23, D24) => (if ay_isb y23 then some (y23, D24) else none)) else (if (D 45 2) = 5 then (match fn_115 a1 D with | none => none | some (y28, D29) => (if ay_isb y28 then some (y28, D29) else none)) else some (0, D))))))) else (match fn_105 D with | none => none | some (y32, D33) => (if ay_isb y32 then some (y32, D33) else none)))
set_option maxHeartbeats 2000000 in
theorem ev_116 {a1 : Int32} {D : am_DD} {y : Int32} {Z : am_DD} (h : fn_116 a1 D = some (y, Z)) : ay_mo 116 [.ref 45, .int a1] D (.inl (some (.int y))) Z := by
  unfold fn_116 at h
  refine ay_m_of (L := [some (.ref 45), some (.int a1)]) rfl ?_
  refine ay_t_loc (pc := 0) fe_116_0 rfl ?_
  refine ay_t_stk (pc := 1) (S' := [.int 59, .int a1]) fe_116_1 rfl ?_
  by_cases hc1 : ¬ a1 = 59
  · rw [if_pos hc1] at h
    refine ay_t_pos (pc := 3) hc1 fe_116_3 rfl ?_
    refine ay_t_loc (pc := 11) fe_116_11 rfl ?_
    refine ay_t_getI (pc := 12) fe_116_12 at_45 (by decide +kernel) rfl ?_
    by_cases hc2 : (D 45 2) = 0
    · rw [if_pos hc2] at h
      refine ay_t_br (pc := 15) (pc' := 52) (S' := []) fe_116_15 (by rw [hc2]; rfl) ?_
      refine ay_t_loc (pc := 52) fe_116_52 rfl ?_
      refine ay_t_loc (pc := 53) fe_116_53 rfl ?_
      cases hk5 : fn_107 a1 D with
      | none => rw [hk5] at h; cases h
      | some z =>
        obtain ⟨y3, D4⟩ := z
        rw [hk5] at h
        dsimp only at h
        refine ay_t_call (pc := 54) (w := some (.int y3)) fe_116_54 (ay_args [.ref 45, .int a1] [] rfl rfl (Nat.le_of_ble_eq_true rfl) (Nat.le_of_ble_eq_true rfl)) (ay_rcvV at_45 rfl) (ev_107 hk5) ?_
        by_cases hn6 : ay_isb y3
        · rw [if_pos hn6] at h
          cases h
          exact ay_t_zret fe_116_57 rfl hn6
        · rw [if_neg hn6] at h; cases h
    · rw [if_neg hc2] at h
      by_cases hc7 : (D 45 2) = 1
      · rw [if_pos hc7] at h
        refine ay_t_br (pc := 15) (pc' := 58) (S' := []) fe_116_15 (by rw [hc7]; rfl) ?_
        refine ay_t_loc (pc := 58) fe_116_58 rfl ?_
        refine ay_t_loc (pc := 59) fe_116_59 rfl ?_
        cases hk10 : fn_109 a1 D with
        | none => rw [hk10] at h; cases h
        | some z =>
          obtain ⟨y8, D9⟩ := z
          rw [hk10] at h
          dsimp only at h
          refine ay_t_call (pc := 60) (w := some (.int y8)) fe_116_60 (ay_args [.ref 45, .int a1] [] rfl rfl (Nat.le_of_ble_eq_true rfl) (Nat.le_of_ble_eq_true rfl)) (ay_rcvV at_45 rfl) (ev_109 hk10) ?_
          by_cases hn11 : ay_isb y8
          · rw [if_pos hn11] at h
            cases h
            exact ay_t_zret fe_116_63 rfl hn11
          · rw [if_neg hn11] at h; cases h
      · rw [if_neg hc7] at h
        by_cases hc12 : (D 45 2) = 2
        · rw [if_pos hc12] at h
          refine ay_t_br (pc := 15) (pc' := 64) (S' := []) fe_116_15 (by rw [hc12]; rfl) ?_
          refine ay_t_loc (pc := 64) fe_116_64 rfl ?_
          refine ay_t_loc (pc := 65) fe_116_65 rfl ?_
          cases hk15 : fn_112 a1 D with
          | none => rw [hk15] at h; cases h
          | some z =>
            obtain ⟨y13, D14⟩ := z
            rw [hk15] at h
            dsimp only at h
            refine ay_t_call (pc := 66) (w := some (.int y13)) fe_116_66 (ay_args [.ref 45, .int a1] [] rfl rfl (Nat.le_of_ble_eq_true rfl) (Nat.le_of_ble_eq_true rfl)) (ay_rcvV at_45 rfl) (ev_112 hk15) ?_
            by_cases hn16 : ay_isb y13
            · rw [if_pos hn16] at h
              cases h
              exact ay_t_zret fe_116_69 rfl hn16
            · rw [if_neg hn16] at h; cases h
        · rw [if_neg hc12] at h
          by_cases hc17 : (D 45 2) = 3
          · rw [if_pos hc17] at h
            refine ay_t_br (pc := 15) (pc' := 70) (S' := []) fe_116_15 (by rw [hc17]; rfl) ?_
            refine ay_t_loc (pc := 70) fe_116_70 rfl ?_
            refine ay_t_loc (pc := 71) fe_116_71 rfl ?_
            cases hk20 : fn_113 a1 D with
            | none => rw [hk20] at h; cases h
            | some z =>
              obtain ⟨y18, D19⟩ := z
              rw [hk20] at h
              dsimp only at h
              refine ay_t_call (pc := 72) (w := some (.int y18)) fe_116_72 (ay_args [.ref 45, .int a1] [] rfl rfl (Nat.le_of_ble_eq_true rfl) (Nat.le_of_ble_eq_true rfl)) (ay_rcvV at_45 rfl) (ev_113 hk20) ?_
              by_cases hn21 : ay_isb y18
              · rw [if_pos hn21] at h
                cases h
                exact ay_t_zret fe_116_75 rfl hn21
              · rw [if_neg hn21] at h; cases h
          · rw [if_neg hc17] at h
            by_cases hc22 : (D 45 2) = 4
            · rw [if_pos hc22] at h
              refine ay_t_br (pc := 15) (pc' := 76) (S' := []) fe_116_15 (by rw [hc22]; rfl) ?_
              refine ay_t_loc (pc := 76) fe_116_76 rfl ?_
              refine ay_t_loc (pc := 77) fe_116_77 rfl ?_
              cases hk25 : fn_114 a1 D with
              | none => rw [hk25] at h; cases h
              | some z =>
                obtain ⟨y23, D24⟩ := z
                rw [hk25] at h
                dsimp only at h
                refine ay_t_call (pc := 78) (w := some (.int y23)) fe_116_78 (ay_args [.ref 45, .int a1] [] rfl rfl (Nat.le_of_ble_eq_true rfl) (Nat.le_of_ble_eq_true rfl)) (ay_rcvV at_45 rfl) (ev_114 hk25) ?_
                by_cases hn26 : ay_isb y23
                · rw [if_pos hn26] at h
                  cases h
                  exact ay_t_zret fe_116_81 rfl hn26
                · rw [if_neg hn26] at h; cases h
            · rw [if_neg hc22] at h
              by_cases hc27 : (D 45 2) = 5
              · rw [if_pos hc27] at h
                refine ay_t_br (pc := 15) (pc' := 82) (S' := []) fe_116_15 (by rw [hc27]; rfl) ?_
                refine ay_t_loc (pc := 82) fe_116_82 rfl ?_
                refine ay_t_loc (pc := 83) fe_116_83 rfl ?_
                cases hk30 : fn_115 a1 D with
                | none => rw [hk30] at h; cases h
                | some z =>
                  obtain ⟨y28, D29⟩ := z
                  rw [hk30] at h
                  dsimp only at h
                  refine ay_t_call (pc := 84) (w := some (.int y28)) fe_116_84 (ay_args [.ref 45, .int a1] [] rfl rfl (Nat.le_of_ble_eq_true rfl) (Nat.le_of_ble_eq_true rfl)) (ay_rcvV at_45 rfl) (ev_115 hk30) ?_
                  by_cases hn31 : ay_isb y28
                  · rw [if_pos hn31] at h
                    cases h
                    exact ay_t_zret fe_116_87 rfl hn31
                  · rw [if_neg hn31] at h; cases h
              · rw [if_neg hc27] at h
                refine ay_t_br (pc := 15) (pc' := 88) fe_116_15 (ay_tab_def (by have z0 := ay_ne_toInt (c := 0) hc2 (by decide); have z1 := ay_ne_toInt (c := 1) hc7 (by decide); have z2 := ay_ne_toInt (c := 2) hc12 (by decide); have z3 := ay_ne_toInt (c := 3) hc17 (by decide); have z4 := ay_ne_toInt (c := 4) hc22 (by decide); have z5 := ay_ne_toInt (c := 5) hc27 (by decide); omega) rfl) ?_
                refine ay_t_stk (pc := 88) (S' := [.int 0]) fe_116_88 rfl ?_
                cases h
                exact ay_t_iret fe_116_89 rfl rfl
  · rw [if_neg hc1] at h
    refine ay_t_neg (pc := 3) hc1 fe_116_3 rfl ?_
    refine ay_t_loc (pc := 6) fe_116_6 rfl ?_
    cases hk34 : fn_105 D with
    | none => rw [hk34] at h; cases h
    | some z =>
      obtain ⟨y32, D33⟩ := z
      rw [hk34] at h
      dsimp only at h
      refine ay_t_call (pc := 7) (w := some (.int y32)) fe_116_7 (ay_args [.ref 45] [] rfl rfl (Nat.le_of_ble_eq_true rfl) (Nat.le_of_ble_eq_true rfl)) (ay_rcvV at_45 rfl) (ev_105 hk34) ?_
      by_cases hn35 : ay_isb y32
      · rw [if_pos hn35] at h
        cases h
        exact ay_t_zret fe_116_10 rfl hn35
      · rw [if_neg hn35] at h; cases h
def fn_117_12 : Nat → Int32 → am_DD → Option (Int32 × am_DD)
  | 0, _, _ => none
  | n + 1, x1, D => (if (D 45 0) ≤ x1 then some ((D 45 0), D) else (match fn_116 (rw_at (D 47) 60 x1) D with | none => none | some (y2, D3) => (if ¬ y2 = 0 then fn_117_12 n (x1 + 1) D3 else some (x1, D3))))
set_option maxHeartbeats 2000000 in
theorem ev_117_12 : ∀ (n : Nat) (x1 : Int32) (D : am_DD) (y : Int32) (Z : am_DD), fn_117_12 n x1 D = some (y, Z) → ay_to 117 12 [some (.ref 45), some (.int x1)] [] D (.inl (some (.int y))) Z := by
  intro n
  induction n with
  | zero => intro x1 D y Z h; cases h
  | succ n ih =>
    intro x1 D y Z h
    rw [fn_117_12] at h
    refine ay_t_loc (pc := 12) fe_117_12 rfl ?_
    refine ay_t_loc (pc := 13) fe_117_13 rfl ?_
    refine ay_t_getI (pc := 14) fe_117_14 at_45 (by decide +kernel) rfl ?_
    by_cases hc1 : (D 45 0) ≤ x1
    · rw [if_pos hc1] at h
      refine ay_t_pos (pc := 17) hc1 fe_117_17 rfl ?_
      refine ay_t_loc (pc := 43) fe_117_43 rfl ?_
      refine ay_t_getI (pc := 44) fe_117_44 at_45 (by decide +kernel) rfl ?_
      cases h
      exact ay_t_iret fe_117_47 rfl rfl
    · rw [if_neg hc1] at h
      refine ay_t_neg (pc := 17) hc1 fe_117_17 rfl ?_
      refine ay_t_loc (pc := 20) fe_117_20 rfl ?_
      refine ay_t_loc (pc := 21) fe_117_21 rfl ?_
      refine ay_t_getR (pc := 22) (w := .ref 46) fe_117_22 at_45 (by decide +kernel) rfl ?_
      refine ay_t_loc (pc := 25) fe_117_25 rfl ?_
      refine ay_t_call (pc := 26) (w := some (.int (rw_at (D 47) 60 x1))) fe_117_26 (ay_args [.ref 46, .int x1] [.ref 45] rfl rfl (Nat.le_of_ble_eq_true rfl) (Nat.le_of_ble_eq_true rfl)) (ay_rcvV at_46 rfl) (mt_at at_46 at_47 (by decide)) ?_
      cases hk4 : fn_116 (rw_at (D 47) 60 x1) D with
      | none => rw [hk4] at h; cases h
      | some z =>
        obtain ⟨y2, D3⟩ := z
        rw [hk4] at h
        dsimp only at h
        refine ay_t_call (pc := 29) (w := some (.int y2)) fe_117_29 (ay_args [.ref 45, .int (rw_at (D 47) 60 x1)] [] rfl rfl (Nat.le_of_ble_eq_true rfl) (Nat.le_of_ble_eq_true rfl)) (ay_rcvV at_45 rfl) (ev_116 hk4) ?_
        by_cases hc5 : ¬ y2 = 0
        · rw [if_pos hc5] at h
          refine ay_t_pos (pc := 32) hc5 fe_117_32 rfl ?_
          refine ay_t_loc (pc := 37) (L' := [some (.ref 45), some (.int (x1 + 1))]) fe_117_37 rfl ?_
          refine ay_t_br (pc := 40) (pc' := 12) fe_117_40 rfl ?_
          exact ay_t_less (ay_ls (ay_ls ay_l0)) (ih _ _ _ _ h)
        · rw [if_neg hc5] at h
          refine ay_t_neg (pc := 32) hc5 fe_117_32 rfl ?_
          refine ay_t_loc (pc := 35) fe_117_35 rfl ?_
          cases h
          exact ay_t_iret fe_117_36 rfl rfl
def fn_117 (D : am_DD) : Option (Int32 × am_DD) := fn_117_12 am_F 0 (am_upd (am_upd D 45 2 0) 45 3 0)
set_option maxHeartbeats 2000000 in
theorem ev_117 {D : am_DD} {y : Int32} {Z : am_DD} (h : fn_117  D = some (y, Z)) : ay_mo 117 [.ref 45] D (.inl (some (.int y))) Z := by
  unfold fn_117 at h
  refine ay_m_of (L := [some (.ref 45), none]) rfl ?_
  refine ay_t_loc (pc := 0) fe_117_0 rfl ?_
  refine ay_t_stk (pc := 1) (S' := [.int 0, .ref 45]) fe_117_1 rfl ?_
  refine ay_t_put (pc := 2) fe_117_2 at_45 (by decide +kernel) rfl rfl ?_
  refine ay_t_loc (pc := 5) fe_117_5 rfl ?_
  refine ay_t_stk (pc := 6) (S' := [.int 0, .ref 45]) fe_117_6 rfl ?_
  refine ay_t_put (pc := 7) fe_117_7 at_45 (by decide +kernel) rfl rfl ?_
  refine ay_t_stk (pc := 10) (S' := [.int 0]) fe_117_10 rfl ?_
  refine ay_t_loc (pc := 11) (L' := [some (.ref 45), some (.int 0)]) fe_117_11 rfl ?_
  exact ay_t_less (ay_ls (ay_ls ay_l0)) (ev_117_12 _ _ _ _ _ h)
def fn_118 (D : am_DD) : Option (Int32 × am_DD) := (match fn_117 D with | none => none | some (y1, D2) => some (y1, D2))
set_option maxHeartbeats 2000000 in
theorem ev_118 {D : am_DD} {y : Int32} {Z : am_DD} (h : fn_118  D = some (y, Z)) : ay_mo 118 [.ref 0] D (.inl (some (.int y))) Z := by
  unfold fn_118 at h
  refine ay_m_of (L := [some (.ref 0)]) rfl ?_
  refine ay_t_loc (pc := 0) fe_118_0 rfl ?_
  refine ay_t_getR (pc := 1) (w := .ref 45) fe_118_1 at_0 (by decide +kernel) rfl ?_
  cases hk3 : fn_117 D with
  | none => rw [hk3] at h; cases h
  | some z =>
    obtain ⟨y1, D2⟩ := z
    rw [hk3] at h
    dsimp only at h
    refine ay_t_call (pc := 4) (w := some (.int y1)) fe_118_4 (ay_args [.ref 45] [] rfl rfl (Nat.le_of_ble_eq_true rfl) (Nat.le_of_ble_eq_true rfl)) (ay_rcvV at_45 rfl) (ev_117 hk3) ?_
    cases h
    exact ay_t_iret fe_118_7 rfl rfl
def fn_119 (a1 a2 : Int32) (D : am_DD) : Option (Int32 × am_DD) := (if (D 321 6) ≤ (D 321 9) then some (0, D) else (if (D 321 9) < 0 ∨ 60 ≤ (D 321 9).toNatClampNeg then none else (match fn_26 (D 326 (D 321 9).toNatClampNeg) a1 a2 D with | none => none | some (y3, D4) => (if y3 = 0 then some (0, D4) else some (1, D4)))))
set_option maxHeartbeats 2000000 in
theorem ev_119 {a1 a2 : Int32} {D : am_DD} {y : Int32} {Z : am_DD} (h : fn_119 a1 a2 D = some (y, Z)) : ay_mo 119 [.ref 321, .int a1, .int a2] D (.inl (some (.int y))) Z := by
  unfold fn_119 at h
  refine ay_m_of (L := [some (.ref 321), some (.int a1), some (.int a2)]) rfl ?_
  refine ay_t_loc (pc := 0) fe_119_0 rfl ?_
  refine ay_t_getI (pc := 1) fe_119_1 at_321 (by decide +kernel) rfl ?_
  refine ay_t_loc (pc := 4) fe_119_4 rfl ?_
  refine ay_t_getI (pc := 5) fe_119_5 at_321 (by decide +kernel) rfl ?_
  by_cases hc1 : (D 321 6) ≤ (D 321 9)
  · rw [if_pos hc1] at h
    refine ay_t_pos (pc := 8) hc1 fe_119_8 rfl ?_
    refine ay_t_stk (pc := 32) (S' := [.int 0]) fe_119_32 rfl ?_
    cases h
    exact ay_t_iret fe_119_33 rfl rfl
  · rw [if_neg hc1] at h
    refine ay_t_neg (pc := 8) hc1 fe_119_8 rfl ?_
    refine ay_t_loc (pc := 11) fe_119_11 rfl ?_
    refine ay_t_getR (pc := 12) (w := .ref 326) fe_119_12 at_321 (by decide +kernel) rfl ?_
    refine ay_t_loc (pc := 15) fe_119_15 rfl ?_
    refine ay_t_getI (pc := 16) fe_119_16 at_321 (by decide +kernel) rfl ?_
    by_cases hb2 : (D 321 9) < 0 ∨ 60 ≤ (D 321 9).toNatClampNeg
    · rw [if_pos hb2] at h; cases h
    rw [if_neg hb2] at h
    refine ay_t_iaload (pc := 19) fe_119_19 at_326 (by decide) hb2 ?_
    refine ay_t_loc (pc := 20) fe_119_20 rfl ?_
    refine ay_t_loc (pc := 21) fe_119_21 rfl ?_
    cases hk5 : fn_26 (D 326 (D 321 9).toNatClampNeg) a1 a2 D with
    | none => rw [hk5] at h; cases h
    | some z =>
      obtain ⟨y3, D4⟩ := z
      rw [hk5] at h
      dsimp only at h
      refine ay_t_call (pc := 22) (w := some (.int y3)) fe_119_22 (ay_args [.int (D 326 (D 321 9).toNatClampNeg), .int a1, .int a2] [] rfl rfl (Nat.le_of_ble_eq_true rfl) (Nat.le_of_ble_eq_true rfl)) rfl (ev_26 hk5) ?_
      by_cases hc6 : y3 = 0
      · rw [if_pos hc6] at h
        refine ay_t_pos (pc := 25) hc6 fe_119_25 rfl ?_
        refine ay_t_stk (pc := 32) (S' := [.int 0]) fe_119_32 rfl ?_
        cases h
        exact ay_t_iret fe_119_33 rfl rfl
      · rw [if_neg hc6] at h
        refine ay_t_neg (pc := 25) hc6 fe_119_25 rfl ?_
        refine ay_t_stk (pc := 28) (S' := [.int 1]) fe_119_28 rfl ?_
        refine ay_t_br (pc := 29) (pc' := 33) fe_119_29 rfl ?_
        cases h
        exact ay_t_iret fe_119_33 rfl rfl
def fn_120_55 : Nat → Int32 → Int32 → Int32 → am_DD → Option (Int32 × am_DD)
  | 0, _, _, _, _ => none
  | n + 1, x1, x3, x4, D => (if x4 ≤ 0 then (if x1 < 0 ∨ 3 ≤ x1.toNatClampNeg then none else some (1, (am_upd D 328 x1.toNatClampNeg x4))) else (match fn_119 48 57 D with | none => none | some (y10, D11) => (if y10 = 0 then (if x1 < 0 ∨ 3 ≤ x1.toNatClampNeg then none else some (1, (am_upd D11 328 x1.toNatClampNeg x4))) else (if (D11 321 9) < 0 ∨ 60 ≤ (D11 321 9).toNatClampNeg then none else (if x3 < (((10 * x4) + (D11 326 (D11 321 9).toNatClampNeg)) - 48) then (if x1 < 0 ∨ 3 ≤ x1.toNatClampNeg then none else some (1, (am_upd D11 328 x1.toNatClampNeg x4))) else (if (D11 321 9) < 0 ∨ 60 ≤ (D11 321 9).toNatClampNeg then none else fn_120_55 n x1 x3 (((10 * x4) + (D11 326 (D11 321 9).toNatClampNeg)) - 48) (am_upd D11 321 9 ((D11 321 9) + 1))))))))
set_option maxHeartbeats 2000000 in
theorem ev_120_55 : ∀ (n : Nat) (x1 x3 x4 : Int32) (D : am_DD) (y : Int32) (Z : am_DD), fn_120_55 n x1 x3 x4 D = some (y, Z) → ay_to 120 55 [some (.ref 321), some (.int x1), none, some (.int x3), some (.int x4)] [] D (.inl (some (.int y))) Z := by
  intro n
  induction n with
  | zero => intro x1 x3 x4 D y Z h; cases h
  | succ n ih =>
    intro x1 x3 x4 D y Z h
    rw [fn_120_55] at h
    refine ay_t_loc (pc := 55) fe_120_55 rfl ?_
    by_cases hc8 : x4 ≤ 0
    · rw [if_pos hc8] at h
      refine ay_t_pos (pc := 57) hc8 fe_120_57 rfl ?_
      refine ay_t_loc (pc := 126) fe_120_126 rfl ?_
      refine ay_t_getR (pc := 127) (w := .ref 328) fe_120_127 at_321 (by decide +kernel) rfl ?_
      refine ay_t_loc (pc := 130) fe_120_130 rfl ?_
      refine ay_t_loc (pc := 131) fe_120_131 rfl ?_
      by_cases hb9 : x1 < 0 ∨ 3 ≤ x1.toNatClampNeg
      · rw [if_pos hb9] at h; cases h
      rw [if_neg hb9] at h
      refine ay_t_iastore (pc := 133) fe_120_133 at_328 hb9 ?_
      refine ay_t_stk (pc := 134) (S' := [.int 1]) fe_120_134 rfl ?_
      cases h
      exact ay_t_iret fe_120_135 rfl rfl
    · rw [if_neg hc8] at h
      refine ay_t_neg (pc := 57) hc8 fe_120_57 rfl ?_
      refine ay_t_loc (pc := 60) fe_120_60 rfl ?_
      refine ay_t_stk (pc := 61) (S' := [.int 48, .ref 321]) fe_120_61 rfl ?_
      refine ay_t_stk (pc := 63) (S' := [.int 57, .int 48, .ref 321]) fe_120_63 rfl ?_
      cases hk12 : fn_119 48 57 D with
      | none => rw [hk12] at h; cases h
      | some z =>
        obtain ⟨y10, D11⟩ := z
        rw [hk12] at h
        dsimp only at h
        refine ay_t_call (pc := 65) (w := some (.int y10)) fe_120_65 (ay_args [.ref 321, .int 48, .int 57] [] rfl rfl (Nat.le_of_ble_eq_true rfl) (Nat.le_of_ble_eq_true rfl)) (ay_rcvV at_321 rfl) (ev_119 hk12) ?_
        by_cases hc13 : y10 = 0
        · rw [if_pos hc13] at h
          refine ay_t_pos (pc := 68) hc13 fe_120_68 rfl ?_
          refine ay_t_loc (pc := 126) fe_120_126 rfl ?_
          refine ay_t_getR (pc := 127) (w := .ref 328) fe_120_127 at_321 (by decide +kernel) rfl ?_
          refine ay_t_loc (pc := 130) fe_120_130 rfl ?_
          refine ay_t_loc (pc := 131) fe_120_131 rfl ?_
          by_cases hb14 : x1 < 0 ∨ 3 ≤ x1.toNatClampNeg
          · rw [if_pos hb14] at h; cases h
          rw [if_neg hb14] at h
          refine ay_t_iastore (pc := 133) fe_120_133 at_328 hb14 ?_
          refine ay_t_stk (pc := 134) (S' := [.int 1]) fe_120_134 rfl ?_
          cases h
          exact ay_t_iret fe_120_135 rfl rfl
        · rw [if_neg hc13] at h
          refine ay_t_neg (pc := 68) hc13 fe_120_68 rfl ?_
          refine ay_t_stk (pc := 71) (S' := [.int 10]) fe_120_71 rfl ?_
          refine ay_t_loc (pc := 73) fe_120_73 rfl ?_
          refine ay_t_stk (pc := 75) (S' := [.int (10 * x4)]) fe_120_75 rfl ?_
          refine ay_t_loc (pc := 76) fe_120_76 rfl ?_
          refine ay_t_getR (pc := 77) (w := .ref 326) fe_120_77 at_321 (by decide +kernel) rfl ?_
          refine ay_t_loc (pc := 80) fe_120_80 rfl ?_
          refine ay_t_getI (pc := 81) fe_120_81 at_321 (by decide +kernel) rfl ?_
          by_cases hb15 : (D11 321 9) < 0 ∨ 60 ≤ (D11 321 9).toNatClampNeg
          · rw [if_pos hb15] at h; cases h
          rw [if_neg hb15] at h
          refine ay_t_iaload (pc := 84) fe_120_84 at_326 (by decide) hb15 ?_
          refine ay_t_stk (pc := 85) (S' := [.int ((10 * x4) + (D11 326 (D11 321 9).toNatClampNeg))]) fe_120_85 rfl ?_
          refine ay_t_stk (pc := 86) (S' := [.int 48, .int ((10 * x4) + (D11 326 (D11 321 9).toNatClampNeg))]) fe_120_86 rfl ?_
          refine ay_t_stk (pc := 88) (S' := [.int (((10 * x4) + (D11 326 (D11 321 9).toNatClampNeg)) - 48)]) fe_120_88 rfl ?_
          refine ay_t_loc (pc := 89) fe_120_89 rfl ?_
          by_cases hc16 : x3 < (((10 * x4) + (D11 326 (D11 321 9).toNatClampNeg)) - 48)
          · rw [if_pos hc16] at h
            refine ay_t_pos (pc := 90) hc16 fe_120_90 rfl ?_
            refine ay_t_loc (pc := 126) fe_120_126 rfl ?_
            refine ay_t_getR (pc := 127) (w := .ref 328) fe_120_127 at_321 (by decide +kernel) rfl ?_
            refine ay_t_loc (pc := 130) fe_120_130 rfl ?_
            refine ay_t_loc (pc := 131) fe_120_131 rfl ?_
            by_cases hb17 : x1 < 0 ∨ 3 ≤ x1.toNatClampNeg
            · rw [if_pos hb17] at h; cases h
            rw [if_neg hb17] at h
            refine ay_t_iastore (pc := 133) fe_120_133 at_328 hb17 ?_
            refine ay_t_stk (pc := 134) (S' := [.int 1]) fe_120_134 rfl ?_
            cases h
            exact ay_t_iret fe_120_135 rfl rfl
          · rw [if_neg hc16] at h
            refine ay_t_neg (pc := 90) hc16 fe_120_90 rfl ?_
            refine ay_t_stk (pc := 93) (S' := [.int 10]) fe_120_93 rfl ?_
            refine ay_t_loc (pc := 95) fe_120_95 rfl ?_
            refine ay_t_stk (pc := 97) (S' := [.int (10 * x4)]) fe_120_97 rfl ?_
            refine ay_t_loc (pc := 98) fe_120_98 rfl ?_
            refine ay_t_getR (pc := 99) (w := .ref 326) fe_120_99 at_321 (by decide +kernel) rfl ?_
            refine ay_t_loc (pc := 102) fe_120_102 rfl ?_
            refine ay_t_getI (pc := 103) fe_120_103 at_321 (by decide +kernel) rfl ?_
            by_cases hb18 : (D11 321 9) < 0 ∨ 60 ≤ (D11 321 9).toNatClampNeg
            · rw [if_pos hb18] at h; cases h
            rw [if_neg hb18] at h
            refine ay_t_iaload (pc := 106) fe_120_106 at_326 (by decide) hb18 ?_
            refine ay_t_stk (pc := 107) (S' := [.int ((10 * x4) + (D11 326 (D11 321 9).toNatClampNeg))]) fe_120_107 rfl ?_
            refine ay_t_stk (pc := 108) (S' := [.int 48, .int ((10 * x4) + (D11 326 (D11 321 9).toNatClampNeg))]) fe_120_108 rfl ?_
            refine ay_t_stk (pc := 110) (S' := [.int (((10 * x4) + (D11 326 (D11 321 9).toNatClampNeg)) - 48)]) fe_120_110 rfl ?_
            refine ay_t_loc (pc := 111) (L' := [some (.ref 321), some (.int x1), none, some (.int x3), some (.int (((10 * x4) + (D11 326 (D11 321 9).toNatClampNeg)) - 48))]) fe_120_111 rfl ?_
            refine ay_t_loc (pc := 113) fe_120_113 rfl ?_
            refine ay_t_stk (pc := 114) (S' := [.ref 321, .ref 321]) fe_120_114 rfl ?_
            refine ay_t_getI (pc := 115) fe_120_115 at_321 (by decide +kernel) rfl ?_
            refine ay_t_stk (pc := 118) (S' := [.int 1, .int (D11 321 9), .ref 321]) fe_120_118 rfl ?_
            refine ay_t_stk (pc := 119) (S' := [.int ((D11 321 9) + 1), .ref 321]) fe_120_119 rfl ?_
            refine ay_t_put (pc := 120) fe_120_120 at_321 (by decide +kernel) rfl rfl ?_
            refine ay_t_br (pc := 123) (pc' := 55) fe_120_123 rfl ?_
            exact ay_t_less (ay_ls (ay_ls (ay_ls (ay_ls (ay_ls ay_l0))))) (ih _ _ _ _ _ _ h)
def fn_120 (a1 a2 a3 : Int32) (D : am_DD) : Option (Int32 × am_DD) := (match fn_119 (48 + a2) 57 D with | none => none | some (y1, D2) => (if y1 = 0 then some (0, D2) else (if (D2 321 9) < 0 ∨ 60 ≤ (D2 321 9).toNatClampNeg then none else (if ((D2 326 (D2 321 9).toNatClampNeg) - 48) ≤ a3 then (if (D2 321 9) < 0 ∨ 60 ≤ (D2 321 9).toNatClampNeg then none else fn_120_55 am_F a1 a3 ((D2 326 (D2 321 9).toNatClampNeg) - 48) (am_upd D2 321 9 ((D2 321 9) + 1))) else some (0, D2)))))
set_option maxHeartbeats 2000000 in
theorem ev_120 {a1 a2 a3 : Int32} {D : am_DD} {y : Int32} {Z : am_DD} (h : fn_120 a1 a2 a3 D = some (y, Z)) : ay_mo 120 [.ref 321, .int a1, .int a2, .int a3] D (.inl (some (.int y))) Z := by
  unfold fn_120 at h
  refine ay_m_of (L := [some (.ref 321), some (.int a1), some (.int a2), some (.int a3), none]) rfl ?_
  refine ay_t_loc (pc := 0) fe_120_0 rfl ?_
  refine ay_t_stk (pc := 1) (S' := [.int 48, .ref 321]) fe_120_1 rfl ?_
  refine ay_t_loc (pc := 3) fe_120_3 rfl ?_
  refine ay_t_stk (pc := 4) (S' := [.int (48 + a2), .ref 321]) fe_120_4 rfl ?_
  refine ay_t_stk (pc := 5) (S' := [.int 57, .int (48 + a2), .ref 321]) fe_120_5 rfl ?_
  cases hk3 : fn_119 (48 + a2) 57 D with
  | none => rw [hk3] at h; cases h
  | some z =>
    obtain ⟨y1, D2⟩ := z
    rw [hk3] at h
    dsimp only at h
    refine ay_t_call (pc := 7) (w := some (.int y1)) fe_120_7 (ay_args [.ref 321, .int (48 + a2), .int 57] [] rfl rfl (Nat.le_of_ble_eq_true rfl) (Nat.le_of_ble_eq_true rfl)) (ay_rcvV at_321 rfl) (ev_119 hk3) ?_
    by_cases hc4 : y1 = 0
    · rw [if_pos hc4] at h
      refine ay_t_pos (pc := 10) hc4 fe_120_10 rfl ?_
      refine ay_t_stk (pc := 29) (S' := [.int 0]) fe_120_29 rfl ?_
      cases h
      exact ay_t_iret fe_120_30 rfl rfl
    · rw [if_neg hc4] at h
      refine ay_t_neg (pc := 10) hc4 fe_120_10 rfl ?_
      refine ay_t_loc (pc := 13) fe_120_13 rfl ?_
      refine ay_t_getR (pc := 14) (w := .ref 326) fe_120_14 at_321 (by decide +kernel) rfl ?_
      refine ay_t_loc (pc := 17) fe_120_17 rfl ?_
      refine ay_t_getI (pc := 18) fe_120_18 at_321 (by decide +kernel) rfl ?_
      by_cases hb5 : (D2 321 9) < 0 ∨ 60 ≤ (D2 321 9).toNatClampNeg
      · rw [if_pos hb5] at h; cases h
      rw [if_neg hb5] at h
      refine ay_t_iaload (pc := 21) fe_120_21 at_326 (by decide) hb5 ?_
      refine ay_t_stk (pc := 22) (S' := [.int 48, .int (D2 326 (D2 321 9).toNatClampNeg)]) fe_120_22 rfl ?_
      refine ay_t_stk (pc := 24) (S' := [.int ((D2 326 (D2 321 9).toNatClampNeg) - 48)]) fe_120_24 rfl ?_
      refine ay_t_loc (pc := 25) fe_120_25 rfl ?_
      by_cases hc6 : ((D2 326 (D2 321 9).toNatClampNeg) - 48) ≤ a3
      · rw [if_pos hc6] at h
        refine ay_t_pos (pc := 26) hc6 fe_120_26 rfl ?_
        refine ay_t_loc (pc := 31) fe_120_31 rfl ?_
        refine ay_t_getR (pc := 32) (w := .ref 326) fe_120_32 at_321 (by decide +kernel) rfl ?_
        refine ay_t_loc (pc := 35) fe_120_35 rfl ?_
        refine ay_t_getI (pc := 36) fe_120_36 at_321 (by decide +kernel) rfl ?_
        by_cases hb7 : (D2 321 9) < 0 ∨ 60 ≤ (D2 321 9).toNatClampNeg
        · rw [if_pos hb7] at h; cases h
        rw [if_neg hb7] at h
        refine ay_t_iaload (pc := 39) fe_120_39 at_326 (by decide) hb7 ?_
        refine ay_t_stk (pc := 40) (S' := [.int 48, .int (D2 326 (D2 321 9).toNatClampNeg)]) fe_120_40 rfl ?_
        refine ay_t_stk (pc := 42) (S' := [.int ((D2 326 (D2 321 9).toNatClampNeg) - 48)]) fe_120_42 rfl ?_
        refine ay_t_loc (pc := 43) (L' := [some (.ref 321), some (.int a1), some (.int a2), some (.int a3), some (.int ((D2 326 (D2 321 9).toNatClampNeg) - 48))]) fe_120_43 rfl ?_
        refine ay_t_loc (pc := 45) fe_120_45 rfl ?_
        refine ay_t_stk (pc := 46) (S' := [.ref 321, .ref 321]) fe_120_46 rfl ?_
        refine ay_t_getI (pc := 47) fe_120_47 at_321 (by decide +kernel) rfl ?_
        refine ay_t_stk (pc := 50) (S' := [.int 1, .int (D2 321 9), .ref 321]) fe_120_50 rfl ?_
        refine ay_t_stk (pc := 51) (S' := [.int ((D2 321 9) + 1), .ref 321]) fe_120_51 rfl ?_
        refine ay_t_put (pc := 52) fe_120_52 at_321 (by decide +kernel) rfl rfl ?_
        exact ay_t_less (ay_ls (ay_ls (ay_ln (ay_ls (ay_ls ay_l0))))) (ev_120_55 _ _ _ _ _ _ _ h)
      · rw [if_neg hc6] at h
        refine ay_t_neg (pc := 26) hc6 fe_120_26 rfl ?_
        refine ay_t_stk (pc := 29) (S' := [.int 0]) fe_120_29 rfl ?_
        cases h
        exact ay_t_iret fe_120_30 rfl rfl
def fn_121 (a1 : Int32) (D : am_DD) : Option (Int32 × am_DD) := (match fn_119 a1 a1 D with | none => none | some (y1, D2) => (if y1 = 0 then (if ay_isb y1 then some (y1, (am_upd D2 321 9 ((D2 321 9) + 0))) else none) else (if ay_isb y1 then some (y1, (am_upd D2 321 9 ((D2 321 9) + 1))) else none)))
set_option maxHeartbeats 2000000 in
theorem ev_121 {a1 : Int32} {D : am_DD} {y : Int32} {Z : am_DD} (h : fn_121 a1 D = some (y, Z)) : ay_mo 121 [.ref 321, .int a1] D (.inl (some (.int y))) Z := by
  unfold fn_121 at h
  refine ay_m_of (L := [some (.ref 321), some (.int a1), none]) rfl ?_
  refine ay_t_loc (pc := 0) fe_121_0 rfl ?_
  refine ay_t_loc (pc := 1) fe_121_1 rfl ?_
  refine ay_t_loc (pc := 2) fe_121_2 rfl ?_
  cases hk3 : fn_119 a1 a1 D with
  | none => rw [hk3] at h; cases h
  | some z =>
    obtain ⟨y1, D2⟩ := z
    rw [hk3] at h
    dsimp only at h
    refine ay_t_call (pc := 3) (w := some (.int y1)) fe_121_3 (ay_args [.ref 321, .int a1, .int a1] [] rfl rfl (Nat.le_of_ble_eq_true rfl) (Nat.le_of_ble_eq_true rfl)) (ay_rcvV at_321 rfl) (ev_119 hk3) ?_
    refine ay_t_loc (pc := 6) (L' := [some (.ref 321), some (.int a1), some (.int y1)]) fe_121_6 rfl ?_
    refine ay_t_loc (pc := 7) fe_121_7 rfl ?_
    refine ay_t_stk (pc := 8) (S' := [.ref 321, .ref 321]) fe_121_8 rfl ?_
    refine ay_t_getI (pc := 9) fe_121_9 at_321 (by decide +kernel) rfl ?_
    refine ay_t_loc (pc := 12) fe_121_12 rfl ?_
    by_cases hc4 : y1 = 0
    · rw [if_pos hc4] at h
      refine ay_t_pos (pc := 13) hc4 fe_121_13 rfl ?_
      refine ay_t_stk (pc := 20) (S' := [.int 0, .int (D2 321 9), .ref 321]) fe_121_20 rfl ?_
      refine ay_t_stk (pc := 21) (S' := [.int ((D2 321 9) + 0), .ref 321]) fe_121_21 rfl ?_
      refine ay_t_put (pc := 22) fe_121_22 at_321 (by decide +kernel) rfl rfl ?_
      refine ay_t_loc (pc := 25) fe_121_25 rfl ?_
      by_cases hn5 : ay_isb y1
      · rw [if_pos hn5] at h
        cases h
        exact ay_t_zret fe_121_26 rfl hn5
      · rw [if_neg hn5] at h; cases h
    · rw [if_neg hc4] at h
      refine ay_t_neg (pc := 13) hc4 fe_121_13 rfl ?_
      refine ay_t_stk (pc := 16) (S' := [.int 1, .int (D2 321 9), .ref 321]) fe_121_16 rfl ?_
      refine ay_t_br (pc := 17) (pc' := 21) fe_121_17 rfl ?_
      refine ay_t_stk (pc := 21) (S' := [.int ((D2 321 9) + 1), .ref 321]) fe_121_21 rfl ?_
      refine ay_t_put (pc := 22) fe_121_22 at_321 (by decide +kernel) rfl rfl ?_
      refine ay_t_loc (pc := 25) fe_121_25 rfl ?_
      by_cases hn6 : ay_isb y1
      · rw [if_pos hn6] at h
        cases h
        exact ay_t_zret fe_121_26 rfl hn6
      · rw [if_neg hn6] at h; cases h
def fn_122 (D : am_DD) : Option (Int32 × am_DD) := (match fn_120 0 0 11 D with | none => none | some (y1, D2) => (if ¬ y1 = 0 then (match fn_121 76 D2 with | none => none | some (y5, D6) => (if y5 = 0 then (match fn_121 82 D6 with | none => none | some (y9, D10) => (if y9 = 0 then (if ¬ ((am_upd D10 328 1 (-1)) 328 1) = (-1) then (match fn_121 98 (am_upd D10 328 1 (-1)) with | none => none | some (y14, D15) => (if ¬ y14 = 0 then (match fn_120 2 0 4 D15 with | none => none | some (y18, D19) => (if ay_isb y18 then some (y18, (am_upd D19 328 2 ((D19 328 2) + 20))) else none)) else (match fn_120 2 0 11 D15 with | none => none | some (y22, D23) => (if ay_isb y22 then some (y22, D23) else none)))) else some (0, (am_upd D10 328 1 (-1)))) else (if ¬ ((am_upd D10 328 1 1) 328 1) = (-1) then (match fn_121 98 (am_upd D10 328 1 1) with | none => none | some (y27, D28) => (if ¬ y27 = 0 then (match fn_120 2 0 4 D28 with | none => none | some (y31, D32) => (if ay_isb y31 then some (y31, (am_upd D32 328 2 ((D32 328 2) + 20))) else none)) else (match fn_120 2 0 11 D28 with | none => none | some (y35, D36) => (if ay_isb y35 then some (y35, D36) else none)))) else some (0, (am_upd D10 328 1 1))))) else (if ¬ ((am_upd D6 328 1 0) 328 1) = (-1) then (match fn_121 98 (am_upd D6 328 1 0) with | none => none | some (y40, D41) => (if ¬ y40 = 0 then (match fn_120 2 0 4 D41 with | none => none | some (y44, D45) => (if ay_isb y44 then some (y44, (am_upd D45 328 2 ((D45 328 2) + 20))) else none)) else (match fn_120 2 0 11 D41 with | none => none | some (y48, D49) => (if ay_isb y48 then some (y48, D49) else none)))) else some (0, (am_upd D6 328 1 0))))) else some (0, D2)))
set_option maxHeartbeats 2000000 in
theorem ev_122 {D : am_DD} {y : Int32} {Z : am_DD} (h : fn_122  D = some (y, Z)) : ay_mo 122 [.ref 321] D (.inl (some (.int y))) Z := by
  unfold fn_122 at h
  refine ay_m_of (L := [some (.ref 321), none]) rfl ?_
  refine ay_t_loc (pc := 0) fe_122_0 rfl ?_
  refine ay_t_stk (pc := 1) (S' := [.int 0, .ref 321]) fe_122_1 rfl ?_
  refine ay_t_stk (pc := 2) (S' := [.int 0, .int 0, .ref 321]) fe_122_2 rfl ?_
  refine ay_t_stk (pc := 3) (S' := [.int 11, .int 0, .int 0, .ref 321]) fe_122_3 rfl ?_
  cases hk3 : fn_120 0 0 11 D with
  | none => rw [hk3] at h; cases h
  | some z =>
    obtain ⟨y1, D2⟩ := z
    rw [hk3] at h
    dsimp only at h
    refine ay_t_call (pc := 5) (w := some (.int y1)) fe_122_5 (ay_args [.ref 321, .int 0, .int 0, .int 11] [] rfl rfl (Nat.le_of_ble_eq_true rfl) (Nat.le_of_ble_eq_true rfl)) (ay_rcvV at_321 rfl) (ev_120 hk3) ?_
    by_cases hc4 : ¬ y1 = 0
    · rw [if_pos hc4] at h
      refine ay_t_pos (pc := 8) hc4 fe_122_8 rfl ?_
      refine ay_t_loc (pc := 13) fe_122_13 rfl ?_
      refine ay_t_getR (pc := 14) (w := .ref 328) fe_122_14 at_321 (by decide +kernel) rfl ?_
      refine ay_t_stk (pc := 17) (S' := [.int 1, .ref 328]) fe_122_17 rfl ?_
      refine ay_t_loc (pc := 18) fe_122_18 rfl ?_
      refine ay_t_stk (pc := 19) (S' := [.int 76, .ref 321, .int 1, .ref 328]) fe_122_19 rfl ?_
      cases hk7 : fn_121 76 D2 with
      | none => rw [hk7] at h; cases h
      | some z =>
        obtain ⟨y5, D6⟩ := z
        rw [hk7] at h
        dsimp only at h
        refine ay_t_call (pc := 21) (w := some (.int y5)) fe_122_21 (ay_args [.ref 321, .int 76] [.int 1, .ref 328] rfl rfl (Nat.le_of_ble_eq_true rfl) (Nat.le_of_ble_eq_true rfl)) (ay_rcvV at_321 rfl) (ev_121 hk7) ?_
        by_cases hc8 : y5 = 0
        · rw [if_pos hc8] at h
          refine ay_t_pos (pc := 24) hc8 fe_122_24 rfl ?_
          refine ay_t_loc (pc := 31) fe_122_31 rfl ?_
          refine ay_t_stk (pc := 32) (S' := [.int 82, .ref 321, .int 1, .ref 328]) fe_122_32 rfl ?_
          cases hk11 : fn_121 82 D6 with
          | none => rw [hk11] at h; cases h
          | some z =>
            obtain ⟨y9, D10⟩ := z
            rw [hk11] at h
            dsimp only at h
            refine ay_t_call (pc := 34) (w := some (.int y9)) fe_122_34 (ay_args [.ref 321, .int 82] [.int 1, .ref 328] rfl rfl (Nat.le_of_ble_eq_true rfl) (Nat.le_of_ble_eq_true rfl)) (ay_rcvV at_321 rfl) (ev_121 hk11) ?_
            by_cases hc12 : y9 = 0
            · rw [if_pos hc12] at h
              refine ay_t_pos (pc := 37) hc12 fe_122_37 rfl ?_
              refine ay_t_stk (pc := 44) (S' := [.int (-1), .int 1, .ref 328]) fe_122_44 rfl ?_
              refine ay_t_iastorek (pc := 45) (k := 1) fe_122_45 at_328 (by decide) (by decide) ?_
              refine ay_t_loc (pc := 46) fe_122_46 rfl ?_
              refine ay_t_getR (pc := 47) (w := .ref 328) fe_122_47 at_321 (by decide +kernel) rfl ?_
              refine ay_t_stk (pc := 50) (S' := [.int 1, .ref 328]) fe_122_50 rfl ?_
              refine ay_t_ialoadk (pc := 51) (k := 1) fe_122_51 at_328 (by decide) (by decide) (by decide) ?_
              refine ay_t_stk (pc := 52) (S' := [.int (-1), .int ((am_upd D10 328 1 (-1)) 328 1)]) fe_122_52 rfl ?_
              by_cases hc13 : ¬ ((am_upd D10 328 1 (-1)) 328 1) = (-1)
              · rw [if_pos hc13] at h
                refine ay_t_pos (pc := 53) hc13 fe_122_53 rfl ?_
                refine ay_t_loc (pc := 58) fe_122_58 rfl ?_
                refine ay_t_stk (pc := 59) (S' := [.int 98, .ref 321]) fe_122_59 rfl ?_
                cases hk16 : fn_121 98 (am_upd D10 328 1 (-1)) with
                | none => rw [hk16] at h; cases h
                | some z =>
                  obtain ⟨y14, D15⟩ := z
                  rw [hk16] at h
                  dsimp only at h
                  refine ay_t_call (pc := 61) (w := some (.int y14)) fe_122_61 (ay_args [.ref 321, .int 98] [] rfl rfl (Nat.le_of_ble_eq_true rfl) (Nat.le_of_ble_eq_true rfl)) (ay_rcvV at_321 rfl) (ev_121 hk16) ?_
                  by_cases hc17 : ¬ y14 = 0
                  · rw [if_pos hc17] at h
                    refine ay_t_pos (pc := 64) hc17 fe_122_64 rfl ?_
                    refine ay_t_loc (pc := 76) fe_122_76 rfl ?_
                    refine ay_t_stk (pc := 77) (S' := [.int 2, .ref 321]) fe_122_77 rfl ?_
                    refine ay_t_stk (pc := 78) (S' := [.int 0, .int 2, .ref 321]) fe_122_78 rfl ?_
                    refine ay_t_stk (pc := 79) (S' := [.int 4, .int 0, .int 2, .ref 321]) fe_122_79 rfl ?_
                    cases hk20 : fn_120 2 0 4 D15 with
                    | none => rw [hk20] at h; cases h
                    | some z =>
                      obtain ⟨y18, D19⟩ := z
                      rw [hk20] at h
                      dsimp only at h
                      refine ay_t_call (pc := 80) (w := some (.int y18)) fe_122_80 (ay_args [.ref 321, .int 2, .int 0, .int 4] [] rfl rfl (Nat.le_of_ble_eq_true rfl) (Nat.le_of_ble_eq_true rfl)) (ay_rcvV at_321 rfl) (ev_120 hk20) ?_
                      refine ay_t_loc (pc := 83) (L' := [some (.ref 321), some (.int y18)]) fe_122_83 rfl ?_
                      refine ay_t_loc (pc := 84) fe_122_84 rfl ?_
                      refine ay_t_getR (pc := 85) (w := .ref 328) fe_122_85 at_321 (by decide +kernel) rfl ?_
                      refine ay_t_stk (pc := 88) (S' := [.int 2, .ref 328]) fe_122_88 rfl ?_
                      refine ay_t_stk (pc := 89) (S' := [.int 2, .ref 328, .int 2, .ref 328]) fe_122_89 rfl ?_
                      refine ay_t_ialoadk (pc := 90) (k := 2) fe_122_90 at_328 (by decide) (by decide) (by decide) ?_
                      refine ay_t_stk (pc := 91) (S' := [.int 20, .int (D19 328 2), .int 2, .ref 328]) fe_122_91 rfl ?_
                      refine ay_t_stk (pc := 93) (S' := [.int ((D19 328 2) + 20), .int 2, .ref 328]) fe_122_93 rfl ?_
                      refine ay_t_iastorek (pc := 94) (k := 2) fe_122_94 at_328 (by decide) (by decide) ?_
                      refine ay_t_loc (pc := 95) fe_122_95 rfl ?_
                      by_cases hn21 : ay_isb y18
                      · rw [if_pos hn21] at h
                        cases h
                        exact ay_t_zret fe_122_96 rfl hn21
                      · rw [if_neg hn21] at h; cases h
                  · rw [if_neg hc17] at h
                    refine ay_t_neg (pc := 64) hc17 fe_122_64 rfl ?_
                    refine ay_t_loc (pc := 67) fe_122_67 rfl ?_
                    refine ay_t_stk (pc := 68) (S' := [.int 2, .ref 321]) fe_122_68 rfl ?_
                    refine ay_t_stk (pc := 69) (S' := [.int 0, .int 2, .ref 321]) fe_122_69 rfl ?_
                    refine ay_t_stk (pc := 70) (S' := [.int 11, .int 0, .int 2, .ref 321]) fe_122_70 rfl ?_
                    cases hk24 : fn_120 2 0 11 D15 with
                    | none => rw [hk24] at h; cases h
                    | some z =>
                      obtain ⟨y22, D23⟩ := z
                      rw [hk24] at h
                      dsimp only at h
                      refine ay_t_call (pc := 72) (w := some (.int y22)) fe_122_72 (ay_args [.ref 321, .int 2, .int 0, .int 11] [] rfl rfl (Nat.le_of_ble_eq_true rfl) (Nat.le_of_ble_eq_true rfl)) (ay_rcvV at_321 rfl) (ev_120 hk24) ?_
                      by_cases hn25 : ay_isb y22
                      · rw [if_pos hn25] at h
                        cases h
                        exact ay_t_zret fe_122_75 rfl hn25
                      · rw [if_neg hn25] at h; cases h
              · rw [if_neg hc13] at h
                refine ay_t_neg (pc := 53) hc13 fe_122_53 rfl ?_
                refine ay_t_stk (pc := 56) (S' := [.int 0]) fe_122_56 rfl ?_
                cases h
                exact ay_t_iret fe_122_57 rfl rfl
            · rw [if_neg hc12] at h
              refine ay_t_neg (pc := 37) hc12 fe_122_37 rfl ?_
              refine ay_t_stk (pc := 40) (S' := [.int 1, .int 1, .ref 328]) fe_122_40 rfl ?_
              refine ay_t_br (pc := 41) (pc' := 45) fe_122_41 rfl ?_
              refine ay_t_iastorek (pc := 45) (k := 1) fe_122_45 at_328 (by decide) (by decide) ?_
              refine ay_t_loc (pc := 46) fe_122_46 rfl ?_
              refine ay_t_getR (pc := 47) (w := .ref 328) fe_122_47 at_321 (by decide +kernel) rfl ?_
              refine ay_t_stk (pc := 50) (S' := [.int 1, .ref 328]) fe_122_50 rfl ?_
              refine ay_t_ialoadk (pc := 51) (k := 1) fe_122_51 at_328 (by decide) (by decide) (by decide) ?_
              refine ay_t_stk (pc := 52) (S' := [.int (-1), .int ((am_upd D10 328 1 1) 328 1)]) fe_122_52 rfl ?_
              by_cases hc26 : ¬ ((am_upd D10 328 1 1) 328 1) = (-1)
              · rw [if_pos hc26] at h
                refine ay_t_pos (pc := 53) hc26 fe_122_53 rfl ?_
                refine ay_t_loc (pc := 58) fe_122_58 rfl ?_
                refine ay_t_stk (pc := 59) (S' := [.int 98, .ref 321]) fe_122_59 rfl ?_
                cases hk29 : fn_121 98 (am_upd D10 328 1 1) with
                | none => rw [hk29] at h; cases h
                | some z =>
                  obtain ⟨y27, D28⟩ := z
                  rw [hk29] at h
                  dsimp only at h
                  refine ay_t_call (pc := 61) (w := some (.int y27)) fe_122_61 (ay_args [.ref 321, .int 98] [] rfl rfl (Nat.le_of_ble_eq_true rfl) (Nat.le_of_ble_eq_true rfl)) (ay_rcvV at_321 rfl) (ev_121 hk29) ?_
                  by_cases hc30 : ¬ y27 = 0
                  · rw [if_pos hc30] at h
                    refine ay_t_pos (pc := 64) hc30 fe_122_64 rfl ?_
                    refine ay_t_loc (pc := 76) fe_122_76 rfl ?_
                    refine ay_t_stk (pc := 77) (S' := [.int 2, .ref 321]) fe_122_77 rfl ?_
                    refine ay_t_stk (pc := 78) (S' := [.int 0, .int 2, .ref 321]) fe_122_78 rfl ?_
                    refine ay_t_stk (pc := 79) (S' := [.int 4, .int 0, .int 2, .ref 321]) fe_122_79 rfl ?_
                    cases hk33 : fn_120 2 0 4 D28 with
                    | none => rw [hk33] at h; cases h
                    | some z =>
                      obtain ⟨y31, D32⟩ := z
                      rw [hk33] at h
                      dsimp only at h
                      refine ay_t_call (pc := 80) (w := some (.int y31)) fe_122_80 (ay_args [.ref 321, .int 2, .int 0, .int 4] [] rfl rfl (Nat.le_of_ble_eq_true rfl) (Nat.le_of_ble_eq_true rfl)) (ay_rcvV at_321 rfl) (ev_120 hk33) ?_
                      refine ay_t_loc (pc := 83) (L' := [some (.ref 321), some (.int y31)]) fe_122_83 rfl ?_
                      refine ay_t_loc (pc := 84) fe_122_84 rfl ?_
                      refine ay_t_getR (pc := 85) (w := .ref 328) fe_122_85 at_321 (by decide +kernel) rfl ?_
                      refine ay_t_stk (pc := 88) (S' := [.int 2, .ref 328]) fe_122_88 rfl ?_
                      refine ay_t_stk (pc := 89) (S' := [.int 2, .ref 328, .int 2, .ref 328]) fe_122_89 rfl ?_
                      refine ay_t_ialoadk (pc := 90) (k := 2) fe_122_90 at_328 (by decide) (by decide) (by decide) ?_
                      refine ay_t_stk (pc := 91) (S' := [.int 20, .int (D32 328 2), .int 2, .ref 328]) fe_122_91 rfl ?_
                      refine ay_t_stk (pc := 93) (S' := [.int ((D32 328 2) + 20), .int 2, .ref 328]) fe_122_93 rfl ?_
                      refine ay_t_iastorek (pc := 94) (k := 2) fe_122_94 at_328 (by decide) (by decide) ?_
                      refine ay_t_loc (pc := 95) fe_122_95 rfl ?_
                      by_cases hn34 : ay_isb y31
                      · rw [if_pos hn34] at h
                        cases h
                        exact ay_t_zret fe_122_96 rfl hn34
                      · rw [if_neg hn34] at h; cases h
                  · rw [if_neg hc30] at h
                    refine ay_t_neg (pc := 64) hc30 fe_122_64 rfl ?_
                    refine ay_t_loc (pc := 67) fe_122_67 rfl ?_
                    refine ay_t_stk (pc := 68) (S' := [.int 2, .ref 321]) fe_122_68 rfl ?_
                    refine ay_t_stk (pc := 69) (S' := [.int 0, .int 2, .ref 321]) fe_122_69 rfl ?_
                    refine ay_t_stk (pc := 70) (S' := [.int 11, .int 0, .int 2, .ref 321]) fe_122_70 rfl ?_
                    cases hk37 : fn_120 2 0 11 D28 with
                    | none => rw [hk37] at h; cases h
                    | some z =>
                      obtain ⟨y35, D36⟩ := z
                      rw [hk37] at h
                      dsimp only at h
                      refine ay_t_call (pc := 72) (w := some (.int y35)) fe_122_72 (ay_args [.ref 321, .int 2, .int 0, .int 11] [] rfl rfl (Nat.le_of_ble_eq_true rfl) (Nat.le_of_ble_eq_true rfl)) (ay_rcvV at_321 rfl) (ev_120 hk37) ?_
                      by_cases hn38 : ay_isb y35
                      · rw [if_pos hn38] at h
                        cases h
                        exact ay_t_zret fe_122_75 rfl hn38
                      · rw [if_neg hn38] at h; cases h
              · rw [if_neg hc26] at h
                refine ay_t_neg (pc := 53) hc26 fe_122_53 rfl ?_
                refine ay_t_stk (pc := 56) (S' := [.int 0]) fe_122_56 rfl ?_
                cases h
                exact ay_t_iret fe_122_57 rfl rfl
        · rw [if_neg hc8] at h
          refine ay_t_neg (pc := 24) hc8 fe_122_24 rfl ?_
          refine ay_t_stk (pc := 27) (S' := [.int 0, .int 1, .ref 328]) fe_122_27 rfl ?_
          refine ay_t_br (pc := 28) (pc' := 45) fe_122_28 rfl ?_
          refine ay_t_iastorek (pc := 45) (k := 1) fe_122_45 at_328 (by decide) (by decide) ?_
          refine ay_t_loc (pc := 46) fe_122_46 rfl ?_
          refine ay_t_getR (pc := 47) (w := .ref 328) fe_122_47 at_321 (by decide +kernel) rfl ?_
          refine ay_t_stk (pc := 50) (S' := [.int 1, .ref 328]) fe_122_50 rfl ?_
          refine ay_t_ialoadk (pc := 51) (k := 1) fe_122_51 at_328 (by decide) (by decide) (by decide) ?_
          refine ay_t_stk (pc := 52) (S' := [.int (-1), .int ((am_upd D6 328 1 0) 328 1)]) fe_122_52 rfl ?_
          by_cases hc39 : ¬ ((am_upd D6 328 1 0) 328 1) = (-1)
          · rw [if_pos hc39] at h
            refine ay_t_pos (pc := 53) hc39 fe_122_53 rfl ?_
            refine ay_t_loc (pc := 58) fe_122_58 rfl ?_
            refine ay_t_stk (pc := 59) (S' := [.int 98, .ref 321]) fe_122_59 rfl ?_
            cases hk42 : fn_121 98 (am_upd D6 328 1 0) with
            | none => rw [hk42] at h; cases h
            | some z =>
              obtain ⟨y40, D41⟩ := z
              rw [hk42] at h
              dsimp only at h
              refine ay_t_call (pc := 61) (w := some (.int y40)) fe_122_61 (ay_args [.ref 321, .int 98] [] rfl rfl (Nat.le_of_ble_eq_true rfl) (Nat.le_of_ble_eq_true rfl)) (ay_rcvV at_321 rfl) (ev_121 hk42) ?_
              by_cases hc43 : ¬ y40 = 0
              · rw [if_pos hc43] at h
                refine ay_t_pos (pc := 64) hc43 fe_122_64 rfl ?_
                refine ay_t_loc (pc := 76) fe_122_76 rfl ?_
                refine ay_t_stk (pc := 77) (S' := [.int 2, .ref 321]) fe_122_77 rfl ?_
                refine ay_t_stk (pc := 78) (S' := [.int 0, .int 2, .ref 321]) fe_122_78 rfl ?_
                refine ay_t_stk (pc := 79) (S' := [.int 4, .int 0, .int 2, .ref 321]) fe_122_79 rfl ?_
                cases hk46 : fn_120 2 0 4 D41 with
                | none => rw [hk46] at h; cases h
                | some z =>
                  obtain ⟨y44, D45⟩ := z
                  rw [hk46] at h
                  dsimp only at h
                  refine ay_t_call (pc := 80) (w := some (.int y44)) fe_122_80 (ay_args [.ref 321, .int 2, .int 0, .int 4] [] rfl rfl (Nat.le_of_ble_eq_true rfl) (Nat.le_of_ble_eq_true rfl)) (ay_rcvV at_321 rfl) (ev_120 hk46) ?_
                  refine ay_t_loc (pc := 83) (L' := [some (.ref 321), some (.int y44)]) fe_122_83 rfl ?_
                  refine ay_t_loc (pc := 84) fe_122_84 rfl ?_
                  refine ay_t_getR (pc := 85) (w := .ref 328) fe_122_85 at_321 (by decide +kernel) rfl ?_
                  refine ay_t_stk (pc := 88) (S' := [.int 2, .ref 328]) fe_122_88 rfl ?_
                  refine ay_t_stk (pc := 89) (S' := [.int 2, .ref 328, .int 2, .ref 328]) fe_122_89 rfl ?_
                  refine ay_t_ialoadk (pc := 90) (k := 2) fe_122_90 at_328 (by decide) (by decide) (by decide) ?_
                  refine ay_t_stk (pc := 91) (S' := [.int 20, .int (D45 328 2), .int 2, .ref 328]) fe_122_91 rfl ?_
                  refine ay_t_stk (pc := 93) (S' := [.int ((D45 328 2) + 20), .int 2, .ref 328]) fe_122_93 rfl ?_
                  refine ay_t_iastorek (pc := 94) (k := 2) fe_122_94 at_328 (by decide) (by decide) ?_
                  refine ay_t_loc (pc := 95) fe_122_95 rfl ?_
                  by_cases hn47 : ay_isb y44
                  · rw [if_pos hn47] at h
                    cases h
                    exact ay_t_zret fe_122_96 rfl hn47
                  · rw [if_neg hn47] at h; cases h
              · rw [if_neg hc43] at h
                refine ay_t_neg (pc := 64) hc43 fe_122_64 rfl ?_
                refine ay_t_loc (pc := 67) fe_122_67 rfl ?_
                refine ay_t_stk (pc := 68) (S' := [.int 2, .ref 321]) fe_122_68 rfl ?_
                refine ay_t_stk (pc := 69) (S' := [.int 0, .int 2, .ref 321]) fe_122_69 rfl ?_
                refine ay_t_stk (pc := 70) (S' := [.int 11, .int 0, .int 2, .ref 321]) fe_122_70 rfl ?_
                cases hk50 : fn_120 2 0 11 D41 with
                | none => rw [hk50] at h; cases h
                | some z =>
                  obtain ⟨y48, D49⟩ := z
                  rw [hk50] at h
                  dsimp only at h
                  refine ay_t_call (pc := 72) (w := some (.int y48)) fe_122_72 (ay_args [.ref 321, .int 2, .int 0, .int 11] [] rfl rfl (Nat.le_of_ble_eq_true rfl) (Nat.le_of_ble_eq_true rfl)) (ay_rcvV at_321 rfl) (ev_120 hk50) ?_
                  by_cases hn51 : ay_isb y48
                  · rw [if_pos hn51] at h
                    cases h
                    exact ay_t_zret fe_122_75 rfl hn51
                  · rw [if_neg hn51] at h; cases h
          · rw [if_neg hc39] at h
            refine ay_t_neg (pc := 53) hc39 fe_122_53 rfl ?_
            refine ay_t_stk (pc := 56) (S' := [.int 0]) fe_122_56 rfl ?_
            cases h
            exact ay_t_iret fe_122_57 rfl rfl
    · rw [if_neg hc4] at h
      refine ay_t_neg (pc := 8) hc4 fe_122_8 rfl ?_
      refine ay_t_stk (pc := 11) (S' := [.int 0]) fe_122_11 rfl ?_
      cases h
      exact ay_t_iret fe_122_12 rfl rfl
def fn_123 (D : am_DD) : Option (Int32 × am_DD) := (if (D 321 6) ≤ (D 321 9) then (if ((am_upd (am_upd D 321 10 0) 321 9 (((am_upd D 321 10 0) 321 9) + 1)) 321 10) = 100 then (match fn_120 0 1 40 (am_upd (am_upd D 321 10 0) 321 9 (((am_upd D 321 10 0) 321 9) + 1)) with | none => none | some (y3, D4) => (if ay_isb y3 then some (y3, D4) else none)) else (if ((am_upd (am_upd D 321 10 0) 321 9 (((am_upd D 321 10 0) 321 9) + 1)) 321 10) = 101 then (match fn_122 (am_upd (am_upd D 321 10 0) 321 9 (((am_upd D 321 10 0) 321 9) + 1)) with | none => none | some (y8, D9) => (if ay_isb y8 then some (y8, D9) else none)) else (if ((am_upd (am_upd D 321 10 0) 321 9 (((am_upd D 321 10 0) 321 9) + 1)) 321 10) = 102 then (match fn_120 0 0 11 (am_upd (am_upd D 321 10 0) 321 9 (((am_upd D 321 10 0) 321 9) + 1)) with | none => none | some (y13, D14) => (if ay_isb y13 then some (y13, D14) else none)) else (if ((am_upd (am_upd D 321 10 0) 321 9 (((am_upd D 321 10 0) 321 9) + 1)) 321 10) = 103 then (match fn_120 0 0 30 (am_upd (am_upd D 321 10 0) 321 9 (((am_upd D 321 10 0) 321 9) + 1)) with | none => none | some (y18, D19) => (if ay_isb y18 then some (y18, D19) else none)) else (if ((am_upd (am_upd D 321 10 0) 321 9 (((am_upd D 321 10 0) 321 9) + 1)) 321 10) = 116 then (match fn_120 0 1 50 (am_upd (am_upd D 321 10 0) 321 9 (((am_upd D 321 10 0) 321 9) + 1)) with | none => none | some (y23, D24) => (if ay_isb y23 then some (y23, D24) else none)) else some (0, (am_upd (am_upd (am_upd D 321 10 0) 321 9 (((am_upd D 321 10 0) 321 9) + 1)) 321 9 (((am_upd (am_upd D 321 10 0) 321 9 (((am_upd D 321 10 0) 321 9) + 1)) 321 9) - 1)))))))) else (if (D 321 9) < 0 ∨ 60 ≤ (D 321 9).toNatClampNeg then none else (if ((am_upd (am_upd D 321 10 (D 326 (D 321 9).toNatClampNeg)) 321 9 (((am_upd D 321 10 (D 326 (D 321 9).toNatClampNeg)) 321 9) + 1)) 321 10) = 100 then (match fn_120 0 1 40 (am_upd (am_upd D 321 10 (D 326 (D 321 9).toNatClampNeg)) 321 9 (((am_upd D 321 10 (D 326 (D 321 9).toNatClampNeg)) 321 9) + 1)) with | none => none | some (y29, D30) => (if ay_isb y29 then some (y29, D30) else none)) else (if ((am_upd (am_upd D 321 10 (D 326 (D 321 9).toNatClampNeg)) 321 9 (((am_upd D 321 10 (D 326 (D 321 9).toNatClampNeg)) 321 9) + 1)) 321 10) = 101 then (match fn_122 (am_upd (am_upd D 321 10 (D 326 (D 321 9).toNatClampNeg)) 321 9 (((am_upd D 321 10 (D 326 (D 321 9).toNatClampNeg)) 321 9) + 1)) with | none => none | some (y34, D35) => (if ay_isb y34 then some (y34, D35) else none)) else (if ((am_upd (am_upd D 321 10 (D 326 (D 321 9).toNatClampNeg)) 321 9 (((am_upd D 321 10 (D 326 (D 321 9).toNatClampNeg)) 321 9) + 1)) 321 10) = 102 then (match fn_120 0 0 11 (am_upd (am_upd D 321 10 (D 326 (D 321 9).toNatClampNeg)) 321 9 (((am_upd D 321 10 (D 326 (D 321 9).toNatClampNeg)) 321 9) + 1)) with | none => none | some (y39, D40) => (if ay_isb y39 then some (y39, D40) else none)) else (if ((am_upd (am_upd D 321 10 (D 326 (D 321 9).toNatClampNeg)) 321 9 (((am_upd D 321 10 (D 326 (D 321 9).toNatClampNeg)) 321 9) + 1)) 321 10) = 103 then (match fn_120 0 0 30 (am_upd (am_upd D 321 10 (D 326 (D 321 9).toNatClampNeg)) 321 9 (((am_upd D 321 10 (D 326 (D 321 9).toNatClampNeg)) 321 9) + 1)) with | none => none | some (y44, D45) => (if ay_isb y44 then some (y44, D45) else none)) else (if ((am_upd (am_upd D 321 10 (D 326 (D 321 9).toNatClampNeg)) 321 9 (((am_upd D 321 10 (D 326 (D 321 9).toNatClampNeg)) 321 9) + 1)) 321 10) = 116 then (match fn_120 0 1 50 (am_upd (am_upd D 321 10 (D 326 (D 321 9).toNatClampNeg)) 321 9 (((am_upd D 321 10 (D 326 (D 321 9).toNatClampNeg)) 321 9) + 1)) with | none => none | some (y49, D50) => (if ay_isb y49 then some (y49, D50) else none)) else some (0, (am_upd (am_upd (am_upd D 321 10 (D 326 (D 321 9).toNatClampNeg)) 321 9 (((am_upd D 321 10 (D 326 (D 321 9).toNatClampNeg)) 321 9) + 1)) 321 9 (((am_upd (am_upd D 321 10 (D 326 (D 321 9).toNatClampNeg)) 321 9 (((am_upd D 321 10 (D 326 (D 321 9).toNatClampNeg)) 321 9) + 1)) 321 9) - 1))))))))))
set_option maxHeartbeats 2000000 in
theorem ev_123 {D : am_DD} {y : Int32} {Z : am_DD} (h : fn_123  D = some (y, Z)) : ay_mo 123 [.ref 321] D (.inl (some (.int y))) Z := by
  unfold fn_123 at h
  refine ay_m_of (L := [some (.ref 321)]) rfl ?_
  refine ay_t_loc (pc := 0) fe_123_0 rfl ?_
  refine ay_t_loc (pc := 1) fe_123_1 rfl ?_
  refine ay_t_getI (pc := 2) fe_123_2 at_321 (by decide +kernel) rfl ?_
  refine ay_t_loc (pc := 5) fe_123_5 rfl ?_
  refine ay_t_getI (pc := 6) fe_123_6 at_321 (by decide +kernel) rfl ?_
  by_cases hc1 : (D 321 6) ≤ (D 321 9)
  · rw [if_pos hc1] at h
    refine ay_t_pos (pc := 9) hc1 fe_123_9 rfl ?_
    refine ay_t_stk (pc := 24) (S' := [.int 0, .ref 321]) fe_123_24 rfl ?_
    refine ay_t_put (pc := 25) fe_123_25 at_321 (by decide +kernel) rfl rfl ?_
    refine ay_t_loc (pc := 28) fe_123_28 rfl ?_
    refine ay_t_stk (pc := 29) (S' := [.ref 321, .ref 321]) fe_123_29 rfl ?_
    refine ay_t_getI (pc := 30) fe_123_30 at_321 (by decide +kernel) rfl ?_
    refine ay_t_stk (pc := 33) (S' := [.int 1, .int ((am_upd D 321 10 0) 321 9), .ref 321]) fe_123_33 rfl ?_
    refine ay_t_stk (pc := 34) (S' := [.int (((am_upd D 321 10 0) 321 9) + 1), .ref 321]) fe_123_34 rfl ?_
    refine ay_t_put (pc := 35) fe_123_35 at_321 (by decide +kernel) rfl rfl ?_
    refine ay_t_loc (pc := 38) fe_123_38 rfl ?_
    refine ay_t_getI (pc := 39) fe_123_39 at_321 (by decide +kernel) rfl ?_
    by_cases hc2 : ((am_upd (am_upd D 321 10 0) 321 9 (((am_upd D 321 10 0) 321 9) + 1)) 321 10) = 100
    · rw [if_pos hc2] at h
      refine ay_t_br (pc := 42) (pc' := 106) (S' := []) fe_123_42 (by rw [hc2]; rfl) ?_
      refine ay_t_loc (pc := 106) fe_123_106 rfl ?_
      refine ay_t_stk (pc := 107) (S' := [.int 0, .ref 321]) fe_123_107 rfl ?_
      refine ay_t_stk (pc := 108) (S' := [.int 1, .int 0, .ref 321]) fe_123_108 rfl ?_
      refine ay_t_stk (pc := 109) (S' := [.int 40, .int 1, .int 0, .ref 321]) fe_123_109 rfl ?_
      cases hk5 : fn_120 0 1 40 (am_upd (am_upd D 321 10 0) 321 9 (((am_upd D 321 10 0) 321 9) + 1)) with
      | none => rw [hk5] at h; cases h
      | some z =>
        obtain ⟨y3, D4⟩ := z
        rw [hk5] at h
        dsimp only at h
        refine ay_t_call (pc := 111) (w := some (.int y3)) fe_123_111 (ay_args [.ref 321, .int 0, .int 1, .int 40] [] rfl rfl (Nat.le_of_ble_eq_true rfl) (Nat.le_of_ble_eq_true rfl)) (ay_rcvV at_321 rfl) (ev_120 hk5) ?_
        by_cases hn6 : ay_isb y3
        · rw [if_pos hn6] at h
          cases h
          exact ay_t_zret fe_123_114 rfl hn6
        · rw [if_neg hn6] at h; cases h
    · rw [if_neg hc2] at h
      by_cases hc7 : ((am_upd (am_upd D 321 10 0) 321 9 (((am_upd D 321 10 0) 321 9) + 1)) 321 10) = 101
      · rw [if_pos hc7] at h
        refine ay_t_br (pc := 42) (pc' := 101) (S' := []) fe_123_42 (by rw [hc7]; rfl) ?_
        refine ay_t_loc (pc := 101) fe_123_101 rfl ?_
        cases hk10 : fn_122 (am_upd (am_upd D 321 10 0) 321 9 (((am_upd D 321 10 0) 321 9) + 1)) with
        | none => rw [hk10] at h; cases h
        | some z =>
          obtain ⟨y8, D9⟩ := z
          rw [hk10] at h
          dsimp only at h
          refine ay_t_call (pc := 102) (w := some (.int y8)) fe_123_102 (ay_args [.ref 321] [] rfl rfl (Nat.le_of_ble_eq_true rfl) (Nat.le_of_ble_eq_true rfl)) (ay_rcvV at_321 rfl) (ev_122 hk10) ?_
          by_cases hn11 : ay_isb y8
          · rw [if_pos hn11] at h
            cases h
            exact ay_t_zret fe_123_105 rfl hn11
          · rw [if_neg hn11] at h; cases h
      · rw [if_neg hc7] at h
        by_cases hc12 : ((am_upd (am_upd D 321 10 0) 321 9 (((am_upd D 321 10 0) 321 9) + 1)) 321 10) = 102
        · rw [if_pos hc12] at h
          refine ay_t_br (pc := 42) (pc' := 124) (S' := []) fe_123_42 (by rw [hc12]; rfl) ?_
          refine ay_t_loc (pc := 124) fe_123_124 rfl ?_
          refine ay_t_stk (pc := 125) (S' := [.int 0, .ref 321]) fe_123_125 rfl ?_
          refine ay_t_stk (pc := 126) (S' := [.int 0, .int 0, .ref 321]) fe_123_126 rfl ?_
          refine ay_t_stk (pc := 127) (S' := [.int 11, .int 0, .int 0, .ref 321]) fe_123_127 rfl ?_
          cases hk15 : fn_120 0 0 11 (am_upd (am_upd D 321 10 0) 321 9 (((am_upd D 321 10 0) 321 9) + 1)) with
          | none => rw [hk15] at h; cases h
          | some z =>
            obtain ⟨y13, D14⟩ := z
            rw [hk15] at h
            dsimp only at h
            refine ay_t_call (pc := 129) (w := some (.int y13)) fe_123_129 (ay_args [.ref 321, .int 0, .int 0, .int 11] [] rfl rfl (Nat.le_of_ble_eq_true rfl) (Nat.le_of_ble_eq_true rfl)) (ay_rcvV at_321 rfl) (ev_120 hk15) ?_
            by_cases hn16 : ay_isb y13
            · rw [if_pos hn16] at h
              cases h
              exact ay_t_zret fe_123_132 rfl hn16
            · rw [if_neg hn16] at h; cases h
        · rw [if_neg hc12] at h
          by_cases hc17 : ((am_upd (am_upd D 321 10 0) 321 9 (((am_upd D 321 10 0) 321 9) + 1)) 321 10) = 103
          · rw [if_pos hc17] at h
            refine ay_t_br (pc := 42) (pc' := 92) (S' := []) fe_123_42 (by rw [hc17]; rfl) ?_
            refine ay_t_loc (pc := 92) fe_123_92 rfl ?_
            refine ay_t_stk (pc := 93) (S' := [.int 0, .ref 321]) fe_123_93 rfl ?_
            refine ay_t_stk (pc := 94) (S' := [.int 0, .int 0, .ref 321]) fe_123_94 rfl ?_
            refine ay_t_stk (pc := 95) (S' := [.int 30, .int 0, .int 0, .ref 321]) fe_123_95 rfl ?_
            cases hk20 : fn_120 0 0 30 (am_upd (am_upd D 321 10 0) 321 9 (((am_upd D 321 10 0) 321 9) + 1)) with
            | none => rw [hk20] at h; cases h
            | some z =>
              obtain ⟨y18, D19⟩ := z
              rw [hk20] at h
              dsimp only at h
              refine ay_t_call (pc := 97) (w := some (.int y18)) fe_123_97 (ay_args [.ref 321, .int 0, .int 0, .int 30] [] rfl rfl (Nat.le_of_ble_eq_true rfl) (Nat.le_of_ble_eq_true rfl)) (ay_rcvV at_321 rfl) (ev_120 hk20) ?_
              by_cases hn21 : ay_isb y18
              · rw [if_pos hn21] at h
                cases h
                exact ay_t_zret fe_123_100 rfl hn21
              · rw [if_neg hn21] at h; cases h
          · rw [if_neg hc17] at h
            by_cases hc22 : ((am_upd (am_upd D 321 10 0) 321 9 (((am_upd D 321 10 0) 321 9) + 1)) 321 10) = 116
            · rw [if_pos hc22] at h
              refine ay_t_br (pc := 42) (pc' := 115) (S' := []) fe_123_42 (by rw [hc22]; rfl) ?_
              refine ay_t_loc (pc := 115) fe_123_115 rfl ?_
              refine ay_t_stk (pc := 116) (S' := [.int 0, .ref 321]) fe_123_116 rfl ?_
              refine ay_t_stk (pc := 117) (S' := [.int 1, .int 0, .ref 321]) fe_123_117 rfl ?_
              refine ay_t_stk (pc := 118) (S' := [.int 50, .int 1, .int 0, .ref 321]) fe_123_118 rfl ?_
              cases hk25 : fn_120 0 1 50 (am_upd (am_upd D 321 10 0) 321 9 (((am_upd D 321 10 0) 321 9) + 1)) with
              | none => rw [hk25] at h; cases h
              | some z =>
                obtain ⟨y23, D24⟩ := z
                rw [hk25] at h
                dsimp only at h
                refine ay_t_call (pc := 120) (w := some (.int y23)) fe_123_120 (ay_args [.ref 321, .int 0, .int 1, .int 50] [] rfl rfl (Nat.le_of_ble_eq_true rfl) (Nat.le_of_ble_eq_true rfl)) (ay_rcvV at_321 rfl) (ev_120 hk25) ?_
                by_cases hn26 : ay_isb y23
                · rw [if_pos hn26] at h
                  cases h
                  exact ay_t_zret fe_123_123 rfl hn26
                · rw [if_neg hn26] at h; cases h
            · rw [if_neg hc22] at h
              refine ay_t_br (pc := 42) (pc' := 133) fe_123_42 (ay_look_def (x := ((am_upd (am_upd D 321 10 0) 321 9 (((am_upd D 321 10 0) 321 9) + 1)) 321 10)) (by simp only [List.toList_toArray, Op.lookupswitch.offset_cons, Op.lookupswitch.offset_nil, if_neg (Ne.symm (ay_ne_toInt (c := 100) hc2 (by decide))), if_neg (Ne.symm (ay_ne_toInt (c := 101) hc7 (by decide))), if_neg (Ne.symm (ay_ne_toInt (c := 102) hc12 (by decide))), if_neg (Ne.symm (ay_ne_toInt (c := 103) hc17 (by decide))), if_neg (Ne.symm (ay_ne_toInt (c := 116) hc22 (by decide)))]) rfl) ?_
              refine ay_t_loc (pc := 133) fe_123_133 rfl ?_
              refine ay_t_stk (pc := 134) (S' := [.ref 321, .ref 321]) fe_123_134 rfl ?_
              refine ay_t_getI (pc := 135) fe_123_135 at_321 (by decide +kernel) rfl ?_
              refine ay_t_stk (pc := 138) (S' := [.int 1, .int ((am_upd (am_upd D 321 10 0) 321 9 (((am_upd D 321 10 0) 321 9) + 1)) 321 9), .ref 321]) fe_123_138 rfl ?_
              refine ay_t_stk (pc := 139) (S' := [.int (((am_upd (am_upd D 321 10 0) 321 9 (((am_upd D 321 10 0) 321 9) + 1)) 321 9) - 1), .ref 321]) fe_123_139 rfl ?_
              refine ay_t_put (pc := 140) fe_123_140 at_321 (by decide +kernel) rfl rfl ?_
              refine ay_t_stk (pc := 143) (S' := [.int 0]) fe_123_143 rfl ?_
              cases h
              exact ay_t_iret fe_123_144 rfl rfl
  · rw [if_neg hc1] at h
    refine ay_t_neg (pc := 9) hc1 fe_123_9 rfl ?_
    refine ay_t_loc (pc := 12) fe_123_12 rfl ?_
    refine ay_t_getR (pc := 13) (w := .ref 326) fe_123_13 at_321 (by decide +kernel) rfl ?_
    refine ay_t_loc (pc := 16) fe_123_16 rfl ?_
    refine ay_t_getI (pc := 17) fe_123_17 at_321 (by decide +kernel) rfl ?_
    by_cases hb27 : (D 321 9) < 0 ∨ 60 ≤ (D 321 9).toNatClampNeg
    · rw [if_pos hb27] at h; cases h
    rw [if_neg hb27] at h
    refine ay_t_iaload (pc := 20) fe_123_20 at_326 (by decide) hb27 ?_
    refine ay_t_br (pc := 21) (pc' := 25) fe_123_21 rfl ?_
    refine ay_t_put (pc := 25) fe_123_25 at_321 (by decide +kernel) rfl rfl ?_
    refine ay_t_loc (pc := 28) fe_123_28 rfl ?_
    refine ay_t_stk (pc := 29) (S' := [.ref 321, .ref 321]) fe_123_29 rfl ?_
    refine ay_t_getI (pc := 30) fe_123_30 at_321 (by decide +kernel) rfl ?_
    refine ay_t_stk (pc := 33) (S' := [.int 1, .int ((am_upd D 321 10 (D 326 (D 321 9).toNatClampNeg)) 321 9), .ref 321]) fe_123_33 rfl ?_
    refine ay_t_stk (pc := 34) (S' := [.int (((am_upd D 321 10 (D 326 (D 321 9).toNatClampNeg)) 321 9) + 1), .ref 321]) fe_123_34 rfl ?_
    refine ay_t_put (pc := 35) fe_123_35 at_321 (by decide +kernel) rfl rfl ?_
    refine ay_t_loc (pc := 38) fe_123_38 rfl ?_
    refine ay_t_getI (pc := 39) fe_123_39 at_321 (by decide +kernel) rfl ?_
    by_cases hc28 : ((am_upd (am_upd D 321 10 (D 326 (D 321 9).toNatClampNeg)) 321 9 (((am_upd D 321 10 (D 326 (D 321 9).toNatClampNeg)) 321 9) + 1)) 321 10) = 100
    · rw [if_pos hc28] at h
      refine ay_t_br (pc := 42) (pc' := 106) (S' := []) fe_123_42 (by rw [hc28]; rfl) ?_
      refine ay_t_loc (pc := 106) fe_123_106 rfl ?_
      refine ay_t_stk (pc := 107) (S' := [.int 0, .ref 321]) fe_123_107 rfl ?_
      refine ay_t_stk (pc := 108) (S' := [.int 1, .int 0, .ref 321]) fe_123_108 rfl ?_
      refine ay_t_stk (pc := 109) (S' := [.int 40, .int 1, .int 0, .ref 321]) fe_123_109 rfl ?_
      cases hk31 : fn_120 0 1 40 (am_upd (am_upd D 321 10 (D 326 (D 321 9).toNatClampNeg)) 321 9 (((am_upd D 321 10 (D 326 (D 321 9).toNatClampNeg)) 321 9) + 1)) with
      | none => rw [hk31] at h; cases h
      | some z =>
        obtain ⟨y29, D30⟩ := z
        rw [hk31] at h
        dsimp only at h
        refine ay_t_call (pc := 111) (w := some (.int y29)) fe_123_111 (ay_args [.ref 321, .int 0, .int 1, .int 40] [] rfl rfl (Nat.le_of_ble_eq_true rfl) (Nat.le_of_ble_eq_true rfl)) (ay_rcvV at_321 rfl) (ev_120 hk31) ?_
        by_cases hn32 : ay_isb y29
        · rw [if_pos hn32] at h
          cases h
          exact ay_t_zret fe_123_114 rfl hn32
        · rw [if_neg hn32] at h; cases h
    · rw [if_neg hc28] at h
      by_cases hc33 : ((am_upd (am_upd D 321 10 (D 326 (D 321 9).toNatClampNeg)) 321 9 (((am_upd D 321 10 (D 326 (D 321 9).toNatClampNeg)) 321 9) + 1)) 321 10) = 101
      · rw [if_pos hc33] at h
        refine ay_t_br (pc := 42) (pc' := 101) (S' := []) fe_123_42 (by rw [hc33]; rfl) ?_
        refine ay_t_loc (pc := 101) fe_123_101 rfl ?_
        cases hk36 : fn_122 (am_upd (am_upd D 321 10 (D 326 (D 321 9).toNatClampNeg)) 321 9 (((am_upd D 321 10 (D 326 (D 321 9).toNatClampNeg)) 321 9) + 1)) with
        | none => rw [hk36] at h; cases h
        | some z =>
          obtain ⟨y34, D35⟩ := z
          rw [hk36] at h
          dsimp only at h
          refine ay_t_call (pc := 102) (w := some (.int y34)) fe_123_102 (ay_args [.ref 321] [] rfl rfl (Nat.le_of_ble_eq_true rfl) (Nat.le_of_ble_eq_true rfl)) (ay_rcvV at_321 rfl) (ev_122 hk36) ?_
          by_cases hn37 : ay_isb y34
          · rw [if_pos hn37] at h
            cases h
            exact ay_t_zret fe_123_105 rfl hn37
          · rw [if_neg hn37] at h; cases h
      · rw [if_neg hc33] at h
        by_cases hc38 : ((am_upd (am_upd D 321 10 (D 326 (D 321 9).toNatClampNeg)) 321 9 (((am_upd D 321 10 (D 326 (D 321 9).toNatClampNeg)) 321 9) + 1)) 321 10) = 102
        · rw [if_pos hc38] at h
          refine ay_t_br (pc := 42) (pc' := 124) (S' := []) fe_123_42 (by rw [hc38]; rfl) ?_
          refine ay_t_loc (pc := 124) fe_123_124 rfl ?_
          refine ay_t_stk (pc := 125) (S' := [.int 0, .ref 321]) fe_123_125 rfl ?_
          refine ay_t_stk (pc := 126) (S' := [.int 0, .int 0, .ref 321]) fe_123_126 rfl ?_
          refine ay_t_stk (pc := 127) (S' := [.int 11, .int 0, .int 0, .ref 321]) fe_123_127 rfl ?_
          cases hk41 : fn_120 0 0 11 (am_upd (am_upd D 321 10 (D 326 (D 321 9).toNatClampNeg)) 321 9 (((am_upd D 321 10 (D 326 (D 321 9).toNatClampNeg)) 321 9) + 1)) with
          | none => rw [hk41] at h; cases h
          | some z =>
            obtain ⟨y39, D40⟩ := z
            rw [hk41] at h
            dsimp only at h
            refine ay_t_call (pc := 129) (w := some (.int y39)) fe_123_129 (ay_args [.ref 321, .int 0, .int 0, .int 11] [] rfl rfl (Nat.le_of_ble_eq_true rfl) (Nat.le_of_ble_eq_true rfl)) (ay_rcvV at_321 rfl) (ev_120 hk41) ?_
            by_cases hn42 : ay_isb y39
            · rw [if_pos hn42] at h
              cases h
              exact ay_t_zret fe_123_132 rfl hn42
            · rw [if_neg hn42] at h; cases h
        · rw [if_neg hc38] at h
          by_cases hc43 : ((am_upd (am_upd D 321 10 (D 326 (D 321 9).toNatClampNeg)) 321 9 (((am_upd D 321 10 (D 326 (D 321 9).toNatClampNeg)) 321 9) + 1)) 321 10) = 103
          · rw [if_pos hc43] at h
            refine ay_t_br (pc := 42) (pc' := 92) (S' := []) fe_123_42 (by rw [hc43]; rfl) ?_
            refine ay_t_loc (pc := 92) fe_123_92 rfl ?_
            refine ay_t_stk (pc := 93) (S' := [.int 0, .ref 321]) fe_123_93 rfl ?_
            refine ay_t_stk (pc := 94) (S' := [.int 0, .int 0, .ref 321]) fe_123_94 rfl ?_
            refine ay_t_stk (pc := 95) (S' := [.int 30, .int 0, .int 0, .ref 321]) fe_123_95 rfl ?_
            cases hk46 : fn_120 0 0 30 (am_upd (am_upd D 321 10 (D 326 (D 321 9).toNatClampNeg)) 321 9 (((am_upd D 321 10 (D 326 (D 321 9).toNatClampNeg)) 321 9) + 1)) with
            | none => rw [hk46] at h; cases h
            | some z =>
              obtain ⟨y44, D45⟩ := z
              rw [hk46] at h
              dsimp only at h
              refine ay_t_call (pc := 97) (w := some (.int y44)) fe_123_97 (ay_args [.ref 321, .int 0, .int 0, .int 30] [] rfl rfl (Nat.le_of_ble_eq_true rfl) (Nat.le_of_ble_eq_true rfl)) (ay_rcvV at_321 rfl) (ev_120 hk46) ?_
              by_cases hn47 : ay_isb y44
              · rw [if_pos hn47] at h
                cases h
                exact ay_t_zret fe_123_100 rfl hn47
              · rw [if_neg hn47] at h; cases h
          · rw [if_neg hc43] at h
            by_cases hc48 : ((am_upd (am_upd D 321 10 (D 326 (D 321 9).toNatClampNeg)) 321 9 (((am_upd D 321 10 (D 326 (D 321 9).toNatClampNeg)) 321 9) + 1)) 321 10) = 116
            · rw [if_pos hc48] at h
              refine ay_t_br (pc := 42) (pc' := 115) (S' := []) fe_123_42 (by rw [hc48]; rfl) ?_
              refine ay_t_loc (pc := 115) fe_123_115 rfl ?_
              refine ay_t_stk (pc := 116) (S' := [.int 0, .ref 321]) fe_123_116 rfl ?_
              refine ay_t_stk (pc := 117) (S' := [.int 1, .int 0, .ref 321]) fe_123_117 rfl ?_
              refine ay_t_stk (pc := 118) (S' := [.int 50, .int 1, .int 0, .ref 321]) fe_123_118 rfl ?_
              cases hk51 : fn_120 0 1 50 (am_upd (am_upd D 321 10 (D 326 (D 321 9).toNatClampNeg)) 321 9 (((am_upd D 321 10 (D 326 (D 321 9).toNatClampNeg)) 321 9) + 1)) with
              | none => rw [hk51] at h; cases h
              | some z =>
                obtain ⟨y49, D50⟩ := z
                rw [hk51] at h
                dsimp only at h
                refine ay_t_call (pc := 120) (w := some (.int y49)) fe_123_120 (ay_args [.ref 321, .int 0, .int 1, .int 50] [] rfl rfl (Nat.le_of_ble_eq_true rfl) (Nat.le_of_ble_eq_true rfl)) (ay_rcvV at_321 rfl) (ev_120 hk51) ?_
                by_cases hn52 : ay_isb y49
                · rw [if_pos hn52] at h
                  cases h
                  exact ay_t_zret fe_123_123 rfl hn52
                · rw [if_neg hn52] at h; cases h
            · rw [if_neg hc48] at h
              refine ay_t_br (pc := 42) (pc' := 133) fe_123_42 (ay_look_def (x := ((am_upd (am_upd D 321 10 (D 326 (D 321 9).toNatClampNeg)) 321 9 (((am_upd D 321 10 (D 326 (D 321 9).toNatClampNeg)) 321 9) + 1)) 321 10)) (by simp only [List.toList_toArray, Op.lookupswitch.offset_cons, Op.lookupswitch.offset_nil, if_neg (Ne.symm (ay_ne_toInt (c := 100) hc28 (by decide))), if_neg (Ne.symm (ay_ne_toInt (c := 101) hc33 (by decide))), if_neg (Ne.symm (ay_ne_toInt (c := 102) hc38 (by decide))), if_neg (Ne.symm (ay_ne_toInt (c := 103) hc43 (by decide))), if_neg (Ne.symm (ay_ne_toInt (c := 116) hc48 (by decide)))]) rfl) ?_
              refine ay_t_loc (pc := 133) fe_123_133 rfl ?_
              refine ay_t_stk (pc := 134) (S' := [.ref 321, .ref 321]) fe_123_134 rfl ?_
              refine ay_t_getI (pc := 135) fe_123_135 at_321 (by decide +kernel) rfl ?_
              refine ay_t_stk (pc := 138) (S' := [.int 1, .int ((am_upd (am_upd D 321 10 (D 326 (D 321 9).toNatClampNeg)) 321 9 (((am_upd D 321 10 (D 326 (D 321 9).toNatClampNeg)) 321 9) + 1)) 321 9), .ref 321]) fe_123_138 rfl ?_
              refine ay_t_stk (pc := 139) (S' := [.int (((am_upd (am_upd D 321 10 (D 326 (D 321 9).toNatClampNeg)) 321 9 (((am_upd D 321 10 (D 326 (D 321 9).toNatClampNeg)) 321 9) + 1)) 321 9) - 1), .ref 321]) fe_123_139 rfl ?_
              refine ay_t_put (pc := 140) fe_123_140 at_321 (by decide +kernel) rfl rfl ?_
              refine ay_t_stk (pc := 143) (S' := [.int 0]) fe_123_143 rfl ?_
              cases h
              exact ay_t_iret fe_123_144 rfl rfl
def fn_124 (D : am_DD) : Option (Int32 × am_DD) := (if (D 321 10) = 100 then (match fn_68 (D 328 0) D with | none => none | some (y2, D3) => (if ¬ y2 = 0 then some (0, D3) else some (1, D3))) else (if (D 321 10) = 101 then (match fn_47 (D 328 0) (D 328 1) (D 328 2) D with | none => none | some (y7, D8) => (if ¬ y7 = 0 then some (0, D8) else some (1, D8))) else (if (D 321 10) = 103 then (match fn_28 (D 328 0) D with | none => none | some (y12, D13) => (if ¬ y12 = 0 then some (0, D13) else some (1, D13))) else (if (D 321 10) = 116 then some (1, D) else (match fn_44 (D 328 0) D with | none => none | some (y17, D18) => (if ay_isb y17 then some (y17, D18) else none))))))
set_option maxHeartbeats 2000000 in
theorem ev_124 {D : am_DD} {y : Int32} {Z : am_DD} (h : fn_124  D = some (y, Z)) : ay_mo 124 [.ref 321] D (.inl (some (.int y))) Z := by
  unfold fn_124 at h
  refine ay_m_of (L := [some (.ref 321)]) rfl ?_
  refine ay_t_loc (pc := 0) fe_124_0 rfl ?_
  refine ay_t_getI (pc := 1) fe_124_1 at_321 (by decide +kernel) rfl ?_
  by_cases hc1 : (D 321 10) = 100
  · rw [if_pos hc1] at h
    refine ay_t_br (pc := 4) (pc' := 98) (S' := []) fe_124_4 (by rw [hc1]; rfl) ?_
    refine ay_t_loc (pc := 98) fe_124_98 rfl ?_
    refine ay_t_loc (pc := 99) fe_124_99 rfl ?_
    refine ay_t_getR (pc := 100) (w := .ref 328) fe_124_100 at_321 (by decide +kernel) rfl ?_
    refine ay_t_stk (pc := 103) (S' := [.int 0, .ref 328, .ref 321]) fe_124_103 rfl ?_
    refine ay_t_ialoadk (pc := 104) (k := 0) fe_124_104 at_328 (by decide) (by decide) (by decide) ?_
    cases hk4 : fn_68 (D 328 0) D with
    | none => rw [hk4] at h; cases h
    | some z =>
      obtain ⟨y2, D3⟩ := z
      rw [hk4] at h
      dsimp only at h
      refine ay_t_call (pc := 105) (w := some (.int y2)) fe_124_105 (ay_args [.ref 321, .int (D 328 0)] [] rfl rfl (Nat.le_of_ble_eq_true rfl) (Nat.le_of_ble_eq_true rfl)) (ay_rcvV at_321 rfl) (ev_68 hk4) ?_
      by_cases hc5 : ¬ y2 = 0
      · rw [if_pos hc5] at h
        refine ay_t_pos (pc := 108) hc5 fe_124_108 rfl ?_
        refine ay_t_stk (pc := 115) (S' := [.int 0]) fe_124_115 rfl ?_
        cases h
        exact ay_t_iret fe_124_116 rfl rfl
      · rw [if_neg hc5] at h
        refine ay_t_neg (pc := 108) hc5 fe_124_108 rfl ?_
        refine ay_t_stk (pc := 111) (S' := [.int 1]) fe_124_111 rfl ?_
        refine ay_t_br (pc := 112) (pc' := 116) fe_124_112 rfl ?_
        cases h
        exact ay_t_iret fe_124_116 rfl rfl
  · rw [if_neg hc1] at h
    by_cases hc6 : (D 321 10) = 101
    · rw [if_pos hc6] at h
      refine ay_t_br (pc := 4) (pc' := 67) (S' := []) fe_124_4 (by rw [hc6]; rfl) ?_
      refine ay_t_loc (pc := 67) fe_124_67 rfl ?_
      refine ay_t_loc (pc := 68) fe_124_68 rfl ?_
      refine ay_t_getR (pc := 69) (w := .ref 328) fe_124_69 at_321 (by decide +kernel) rfl ?_
      refine ay_t_stk (pc := 72) (S' := [.int 0, .ref 328, .ref 321]) fe_124_72 rfl ?_
      refine ay_t_ialoadk (pc := 73) (k := 0) fe_124_73 at_328 (by decide) (by decide) (by decide) ?_
      refine ay_t_loc (pc := 74) fe_124_74 rfl ?_
      refine ay_t_getR (pc := 75) (w := .ref 328) fe_124_75 at_321 (by decide +kernel) rfl ?_
      refine ay_t_stk (pc := 78) (S' := [.int 1, .ref 328, .int (D 328 0), .ref 321]) fe_124_78 rfl ?_
      refine ay_t_ialoadk (pc := 79) (k := 1) fe_124_79 at_328 (by decide) (by decide) (by decide) ?_
      refine ay_t_loc (pc := 80) fe_124_80 rfl ?_
      refine ay_t_getR (pc := 81) (w := .ref 328) fe_124_81 at_321 (by decide +kernel) rfl ?_
      refine ay_t_stk (pc := 84) (S' := [.int 2, .ref 328, .int (D 328 1), .int (D 328 0), .ref 321]) fe_124_84 rfl ?_
      refine ay_t_ialoadk (pc := 85) (k := 2) fe_124_85 at_328 (by decide) (by decide) (by decide) ?_
      cases hk9 : fn_47 (D 328 0) (D 328 1) (D 328 2) D with
      | none => rw [hk9] at h; cases h
      | some z =>
        obtain ⟨y7, D8⟩ := z
        rw [hk9] at h
        dsimp only at h
        refine ay_t_call (pc := 86) (w := some (.int y7)) fe_124_86 (ay_args [.ref 321, .int (D 328 0), .int (D 328 1), .int (D 328 2)] [] rfl rfl (Nat.le_of_ble_eq_true rfl) (Nat.le_of_ble_eq_true rfl)) (ay_rcvV at_321 rfl) (ev_47 hk9) ?_
        by_cases hc10 : ¬ y7 = 0
        · rw [if_pos hc10] at h
          refine ay_t_pos (pc := 89) hc10 fe_124_89 rfl ?_
          refine ay_t_stk (pc := 96) (S' := [.int 0]) fe_124_96 rfl ?_
          cases h
          exact ay_t_iret fe_124_97 rfl rfl
        · rw [if_neg hc10] at h
          refine ay_t_neg (pc := 89) hc10 fe_124_89 rfl ?_
          refine ay_t_stk (pc := 92) (S' := [.int 1]) fe_124_92 rfl ?_
          refine ay_t_br (pc := 93) (pc' := 97) fe_124_93 rfl ?_
          cases h
          exact ay_t_iret fe_124_97 rfl rfl
    · rw [if_neg hc6] at h
      by_cases hc11 : (D 321 10) = 103
      · rw [if_pos hc11] at h
        refine ay_t_br (pc := 4) (pc' := 48) (S' := []) fe_124_4 (by rw [hc11]; rfl) ?_
        refine ay_t_loc (pc := 48) fe_124_48 rfl ?_
        refine ay_t_loc (pc := 49) fe_124_49 rfl ?_
        refine ay_t_getR (pc := 50) (w := .ref 328) fe_124_50 at_321 (by decide +kernel) rfl ?_
        refine ay_t_stk (pc := 53) (S' := [.int 0, .ref 328, .ref 321]) fe_124_53 rfl ?_
        refine ay_t_ialoadk (pc := 54) (k := 0) fe_124_54 at_328 (by decide) (by decide) (by decide) ?_
        cases hk14 : fn_28 (D 328 0) D with
        | none => rw [hk14] at h; cases h
        | some z =>
          obtain ⟨y12, D13⟩ := z
          rw [hk14] at h
          dsimp only at h
          refine ay_t_call (pc := 55) (w := some (.int y12)) fe_124_55 (ay_args [.ref 321, .int (D 328 0)] [] rfl rfl (Nat.le_of_ble_eq_true rfl) (Nat.le_of_ble_eq_true rfl)) (ay_rcvV at_321 rfl) (ev_28 hk14) ?_
          by_cases hc15 : ¬ y12 = 0
          · rw [if_pos hc15] at h
            refine ay_t_pos (pc := 58) hc15 fe_124_58 rfl ?_
            refine ay_t_stk (pc := 65) (S' := [.int 0]) fe_124_65 rfl ?_
            cases h
            exact ay_t_iret fe_124_66 rfl rfl
          · rw [if_neg hc15] at h
            refine ay_t_neg (pc := 58) hc15 fe_124_58 rfl ?_
            refine ay_t_stk (pc := 61) (S' := [.int 1]) fe_124_61 rfl ?_
            refine ay_t_br (pc := 62) (pc' := 66) fe_124_62 rfl ?_
            cases h
            exact ay_t_iret fe_124_66 rfl rfl
      · rw [if_neg hc11] at h
        by_cases hc16 : (D 321 10) = 116
        · rw [if_pos hc16] at h
          refine ay_t_br (pc := 4) (pc' := 117) (S' := []) fe_124_4 (by rw [hc16]; rfl) ?_
          refine ay_t_stk (pc := 117) (S' := [.int 1]) fe_124_117 rfl ?_
          cases h
          exact ay_t_iret fe_124_118 rfl rfl
        · rw [if_neg hc16] at h
          refine ay_t_br (pc := 4) (pc' := 119) fe_124_4 (ay_look_def (x := (D 321 10)) (by simp only [List.toList_toArray, Op.lookupswitch.offset_cons, Op.lookupswitch.offset_nil, if_neg (Ne.symm (ay_ne_toInt (c := 100) hc1 (by decide))), if_neg (Ne.symm (ay_ne_toInt (c := 101) hc6 (by decide))), if_neg (Ne.symm (ay_ne_toInt (c := 103) hc11 (by decide))), if_neg (Ne.symm (ay_ne_toInt (c := 116) hc16 (by decide)))]) rfl) ?_
          refine ay_t_loc (pc := 119) fe_124_119 rfl ?_
          refine ay_t_loc (pc := 120) fe_124_120 rfl ?_
          refine ay_t_getR (pc := 121) (w := .ref 328) fe_124_121 at_321 (by decide +kernel) rfl ?_
          refine ay_t_stk (pc := 124) (S' := [.int 0, .ref 328, .ref 321]) fe_124_124 rfl ?_
          refine ay_t_ialoadk (pc := 125) (k := 0) fe_124_125 at_328 (by decide) (by decide) (by decide) ?_
          cases hk19 : fn_44 (D 328 0) D with
          | none => rw [hk19] at h; cases h
          | some z =>
            obtain ⟨y17, D18⟩ := z
            rw [hk19] at h
            dsimp only at h
            refine ay_t_call (pc := 126) (w := some (.int y17)) fe_124_126 (ay_args [.ref 321, .int (D 328 0)] [] rfl rfl (Nat.le_of_ble_eq_true rfl) (Nat.le_of_ble_eq_true rfl)) (ay_rcvV at_321 rfl) (ev_44 hk19) ?_
            by_cases hn20 : ay_isb y17
            · rw [if_pos hn20] at h
              cases h
              exact ay_t_zret fe_124_129 rfl hn20
            · rw [if_neg hn20] at h; cases h
def fn_125 (D : am_DD) : Option (Int32 × am_DD) := (if (D 321 10) = 100 then (match fn_69 (D 328 0) D with | none => none | some (y2, D3) => some (y2, D3)) else (if (D 321 10) = 101 then (match fn_49 (D 328 0) (D 328 1) (D 328 2) D with | none => none | some (y6, D7) => some (y6, D7)) else (if (D 321 10) = 103 then (match fn_33 (D 328 0) D with | none => none | some (y10, D11) => some (y10, D11)) else (if (D 321 10) = 116 then (match fn_89 (D 328 0) D with | none => none | some (y14, D15) => some (y14, D15)) else (match fn_59 (D 328 0) D with | none => none | some (y17, D18) => some (y17, D18))))))
set_option maxHeartbeats 2000000 in
theorem ev_125 {D : am_DD} {y : Int32} {Z : am_DD} (h : fn_125  D = some (y, Z)) : ay_mo 125 [.ref 321] D (.inl (some (.int y))) Z := by
  unfold fn_125 at h
  refine ay_m_of (L := [some (.ref 321)]) rfl ?_
  refine ay_t_loc (pc := 0) fe_125_0 rfl ?_
  refine ay_t_getI (pc := 1) fe_125_1 at_321 (by decide +kernel) rfl ?_
  by_cases hc1 : (D 321 10) = 100
  · rw [if_pos hc1] at h
    refine ay_t_br (pc := 4) (pc' := 82) (S' := []) fe_125_4 (by rw [hc1]; rfl) ?_
    refine ay_t_loc (pc := 82) fe_125_82 rfl ?_
    refine ay_t_loc (pc := 83) fe_125_83 rfl ?_
    refine ay_t_getR (pc := 84) (w := .ref 328) fe_125_84 at_321 (by decide +kernel) rfl ?_
    refine ay_t_stk (pc := 87) (S' := [.int 0, .ref 328, .ref 321]) fe_125_87 rfl ?_
    refine ay_t_ialoadk (pc := 88) (k := 0) fe_125_88 at_328 (by decide) (by decide) (by decide) ?_
    cases hk4 : fn_69 (D 328 0) D with
    | none => rw [hk4] at h; cases h
    | some z =>
      obtain ⟨y2, D3⟩ := z
      rw [hk4] at h
      dsimp only at h
      refine ay_t_call (pc := 89) (w := some (.int y2)) fe_125_89 (ay_args [.ref 321, .int (D 328 0)] [] rfl rfl (Nat.le_of_ble_eq_true rfl) (Nat.le_of_ble_eq_true rfl)) (ay_rcvV at_321 rfl) (ev_69 hk4) ?_
      cases h
      exact ay_t_iret fe_125_92 rfl rfl
  · rw [if_neg hc1] at h
    by_cases hc5 : (D 321 10) = 101
    · rw [if_pos hc5] at h
      refine ay_t_br (pc := 4) (pc' := 59) (S' := []) fe_125_4 (by rw [hc5]; rfl) ?_
      refine ay_t_loc (pc := 59) fe_125_59 rfl ?_
      refine ay_t_loc (pc := 60) fe_125_60 rfl ?_
      refine ay_t_getR (pc := 61) (w := .ref 328) fe_125_61 at_321 (by decide +kernel) rfl ?_
      refine ay_t_stk (pc := 64) (S' := [.int 0, .ref 328, .ref 321]) fe_125_64 rfl ?_
      refine ay_t_ialoadk (pc := 65) (k := 0) fe_125_65 at_328 (by decide) (by decide) (by decide) ?_
      refine ay_t_loc (pc := 66) fe_125_66 rfl ?_
      refine ay_t_getR (pc := 67) (w := .ref 328) fe_125_67 at_321 (by decide +kernel) rfl ?_
      refine ay_t_stk (pc := 70) (S' := [.int 1, .ref 328, .int (D 328 0), .ref 321]) fe_125_70 rfl ?_
      refine ay_t_ialoadk (pc := 71) (k := 1) fe_125_71 at_328 (by decide) (by decide) (by decide) ?_
      refine ay_t_loc (pc := 72) fe_125_72 rfl ?_
      refine ay_t_getR (pc := 73) (w := .ref 328) fe_125_73 at_321 (by decide +kernel) rfl ?_
      refine ay_t_stk (pc := 76) (S' := [.int 2, .ref 328, .int (D 328 1), .int (D 328 0), .ref 321]) fe_125_76 rfl ?_
      refine ay_t_ialoadk (pc := 77) (k := 2) fe_125_77 at_328 (by decide) (by decide) (by decide) ?_
      cases hk8 : fn_49 (D 328 0) (D 328 1) (D 328 2) D with
      | none => rw [hk8] at h; cases h
      | some z =>
        obtain ⟨y6, D7⟩ := z
        rw [hk8] at h
        dsimp only at h
        refine ay_t_call (pc := 78) (w := some (.int y6)) fe_125_78 (ay_args [.ref 321, .int (D 328 0), .int (D 328 1), .int (D 328 2)] [] rfl rfl (Nat.le_of_ble_eq_true rfl) (Nat.le_of_ble_eq_true rfl)) (ay_rcvV at_321 rfl) (ev_49 hk8) ?_
        cases h
        exact ay_t_iret fe_125_81 rfl rfl
    · rw [if_neg hc5] at h
      by_cases hc9 : (D 321 10) = 103
      · rw [if_pos hc9] at h
        refine ay_t_br (pc := 4) (pc' := 48) (S' := []) fe_125_4 (by rw [hc9]; rfl) ?_
        refine ay_t_loc (pc := 48) fe_125_48 rfl ?_
        refine ay_t_loc (pc := 49) fe_125_49 rfl ?_
        refine ay_t_getR (pc := 50) (w := .ref 328) fe_125_50 at_321 (by decide +kernel) rfl ?_
        refine ay_t_stk (pc := 53) (S' := [.int 0, .ref 328, .ref 321]) fe_125_53 rfl ?_
        refine ay_t_ialoadk (pc := 54) (k := 0) fe_125_54 at_328 (by decide) (by decide) (by decide) ?_
        cases hk12 : fn_33 (D 328 0) D with
        | none => rw [hk12] at h; cases h
        | some z =>
          obtain ⟨y10, D11⟩ := z
          rw [hk12] at h
          dsimp only at h
          refine ay_t_call (pc := 55) (w := some (.int y10)) fe_125_55 (ay_args [.ref 321, .int (D 328 0)] [] rfl rfl (Nat.le_of_ble_eq_true rfl) (Nat.le_of_ble_eq_true rfl)) (ay_rcvV at_321 rfl) (ev_33 hk12) ?_
          cases h
          exact ay_t_iret fe_125_58 rfl rfl
      · rw [if_neg hc9] at h
        by_cases hc13 : (D 321 10) = 116
        · rw [if_pos hc13] at h
          refine ay_t_br (pc := 4) (pc' := 93) (S' := []) fe_125_4 (by rw [hc13]; rfl) ?_
          refine ay_t_loc (pc := 93) fe_125_93 rfl ?_
          refine ay_t_loc (pc := 94) fe_125_94 rfl ?_
          refine ay_t_getR (pc := 95) (w := .ref 328) fe_125_95 at_321 (by decide +kernel) rfl ?_
          refine ay_t_stk (pc := 98) (S' := [.int 0, .ref 328, .ref 321]) fe_125_98 rfl ?_
          refine ay_t_ialoadk (pc := 99) (k := 0) fe_125_99 at_328 (by decide) (by decide) (by decide) ?_
          cases hk16 : fn_89 (D 328 0) D with
          | none => rw [hk16] at h; cases h
          | some z =>
            obtain ⟨y14, D15⟩ := z
            rw [hk16] at h
            dsimp only at h
            refine ay_t_call (pc := 100) (w := some (.int y14)) fe_125_100 (ay_args [.ref 321, .int (D 328 0)] [] rfl rfl (Nat.le_of_ble_eq_true rfl) (Nat.le_of_ble_eq_true rfl)) (ay_rcvV at_321 rfl) (ev_89 hk16) ?_
            cases h
            exact ay_t_iret fe_125_103 rfl rfl
        · rw [if_neg hc13] at h
          refine ay_t_br (pc := 4) (pc' := 104) fe_125_4 (ay_look_def (x := (D 321 10)) (by simp only [List.toList_toArray, Op.lookupswitch.offset_cons, Op.lookupswitch.offset_nil, if_neg (Ne.symm (ay_ne_toInt (c := 100) hc1 (by decide))), if_neg (Ne.symm (ay_ne_toInt (c := 101) hc5 (by decide))), if_neg (Ne.symm (ay_ne_toInt (c := 103) hc9 (by decide))), if_neg (Ne.symm (ay_ne_toInt (c := 116) hc13 (by decide)))]) rfl) ?_
          refine ay_t_loc (pc := 104) fe_125_104 rfl ?_
          refine ay_t_loc (pc := 105) fe_125_105 rfl ?_
          refine ay_t_getR (pc := 106) (w := .ref 328) fe_125_106 at_321 (by decide +kernel) rfl ?_
          refine ay_t_stk (pc := 109) (S' := [.int 0, .ref 328, .ref 321]) fe_125_109 rfl ?_
          refine ay_t_ialoadk (pc := 110) (k := 0) fe_125_110 at_328 (by decide) (by decide) (by decide) ?_
          cases hk19 : fn_59 (D 328 0) D with
          | none => rw [hk19] at h; cases h
          | some z =>
            obtain ⟨y17, D18⟩ := z
            rw [hk19] at h
            dsimp only at h
            refine ay_t_call (pc := 111) (w := some (.int y17)) fe_125_111 (ay_args [.ref 321, .int (D 328 0)] [] rfl rfl (Nat.le_of_ble_eq_true rfl) (Nat.le_of_ble_eq_true rfl)) (ay_rcvV at_321 rfl) (ev_59 hk19) ?_
            cases h
            exact ay_t_iret fe_125_114 rfl rfl
def fn_126_15 : Nat → Int32 → Int32 → am_DD → Option (Int32 × am_DD)
  | 0, _, _, _ => none
  | n + 1, x1, x2, D => (if x2 = 0 then some (0, D) else (if x1 = 0 then (if ¬ ((am_upd D 321 12 ((D 321 12) + 1)) 321 9) = ((am_upd D 321 12 ((D 321 12) + 1)) 321 6) then (match fn_121 59 (am_upd D 321 12 ((D 321 12) + 1)) with | none => none | some (y7, D8) => (if y7 = 0 then fn_126_15 n x1 0 D8 else (match fn_123 D8 with | none => none | some (y11, D12) => (if y11 = 0 then fn_126_15 n x1 0 D12 else fn_126_15 n x1 1 D12)))) else some (1, (am_upd D 321 12 ((D 321 12) + 1)))) else (match fn_124 D with | none => none | some (y15, D16) => (if ¬ y15 = 0 then (match fn_125 D16 with | none => none | some (y19, D20) => (if ¬ ((am_upd D20 321 12 ((D20 321 12) + 1)) 321 9) = ((am_upd D20 321 12 ((D20 321 12) + 1)) 321 6) then (match fn_121 59 (am_upd D20 321 12 ((D20 321 12) + 1)) with | none => none | some (y23, D24) => (if y23 = 0 then fn_126_15 n x1 0 D24 else (match fn_123 D24 with | none => none | some (y27, D28) => (if y27 = 0 then fn_126_15 n x1 0 D28 else fn_126_15 n x1 1 D28)))) else some (1, (am_upd D20 321 12 ((D20 321 12) + 1))))) else some (1, D16)))))
set_option maxHeartbeats 2000000 in
theorem ev_126_15 : ∀ (n : Nat) (x1 x2 : Int32) (D : am_DD) (y : Int32) (Z : am_DD), fn_126_15 n x1 x2 D = some (y, Z) → ay_to 126 15 [some (.ref 321), some (.int x1), some (.int x2)] [] D (.inl (some (.int y))) Z := by
  intro n
  induction n with
  | zero => intro x1 x2 D y Z h; cases h
  | succ n ih =>
    intro x1 x2 D y Z h
    rw [fn_126_15] at h
    refine ay_t_loc (pc := 15) fe_126_15 rfl ?_
    by_cases hc4 : x2 = 0
    · rw [if_pos hc4] at h
      refine ay_t_pos (pc := 16) hc4 fe_126_16 rfl ?_
      refine ay_t_stk (pc := 85) (S' := [.int 0]) fe_126_85 rfl ?_
      cases h
      exact ay_t_iret fe_126_86 rfl rfl
    · rw [if_neg hc4] at h
      refine ay_t_neg (pc := 16) hc4 fe_126_16 rfl ?_
      refine ay_t_loc (pc := 19) fe_126_19 rfl ?_
      by_cases hc5 : x1 = 0
      · rw [if_pos hc5] at h
        refine ay_t_pos (pc := 20) hc5 fe_126_20 rfl ?_
        refine ay_t_loc (pc := 37) fe_126_37 rfl ?_
        refine ay_t_stk (pc := 38) (S' := [.ref 321, .ref 321]) fe_126_38 rfl ?_
        refine ay_t_getI (pc := 39) fe_126_39 at_321 (by decide +kernel) rfl ?_
        refine ay_t_stk (pc := 42) (S' := [.int 1, .int (D 321 12), .ref 321]) fe_126_42 rfl ?_
        refine ay_t_stk (pc := 43) (S' := [.int ((D 321 12) + 1), .ref 321]) fe_126_43 rfl ?_
        refine ay_t_put (pc := 44) fe_126_44 at_321 (by decide +kernel) rfl rfl ?_
        refine ay_t_loc (pc := 47) fe_126_47 rfl ?_
        refine ay_t_getI (pc := 48) fe_126_48 at_321 (by decide +kernel) rfl ?_
        refine ay_t_loc (pc := 51) fe_126_51 rfl ?_
        refine ay_t_getI (pc := 52) fe_126_52 at_321 (by decide +kernel) rfl ?_
        by_cases hc6 : ¬ ((am_upd D 321 12 ((D 321 12) + 1)) 321 9) = ((am_upd D 321 12 ((D 321 12) + 1)) 321 6)
        · rw [if_pos hc6] at h
          refine ay_t_pos (pc := 55) hc6 fe_126_55 rfl ?_
          refine ay_t_loc (pc := 60) fe_126_60 rfl ?_
          refine ay_t_stk (pc := 61) (S' := [.int 59, .ref 321]) fe_126_61 rfl ?_
          cases hk9 : fn_121 59 (am_upd D 321 12 ((D 321 12) + 1)) with
          | none => rw [hk9] at h; cases h
          | some z =>
            obtain ⟨y7, D8⟩ := z
            rw [hk9] at h
            dsimp only at h
            refine ay_t_call (pc := 63) (w := some (.int y7)) fe_126_63 (ay_args [.ref 321, .int 59] [] rfl rfl (Nat.le_of_ble_eq_true rfl) (Nat.le_of_ble_eq_true rfl)) (ay_rcvV at_321 rfl) (ev_121 hk9) ?_
            by_cases hc10 : y7 = 0
            · rw [if_pos hc10] at h
              refine ay_t_pos (pc := 66) hc10 fe_126_66 rfl ?_
              refine ay_t_stk (pc := 80) (S' := [.int 0]) fe_126_80 rfl ?_
              refine ay_t_loc (pc := 81) (L' := [some (.ref 321), some (.int x1), some (.int 0)]) fe_126_81 rfl ?_
              refine ay_t_br (pc := 82) (pc' := 15) fe_126_82 rfl ?_
              exact ay_t_less (ay_ls (ay_ls (ay_ls ay_l0))) (ih _ _ _ _ _ h)
            · rw [if_neg hc10] at h
              refine ay_t_neg (pc := 66) hc10 fe_126_66 rfl ?_
              refine ay_t_loc (pc := 69) fe_126_69 rfl ?_
              cases hk13 : fn_123 D8 with
              | none => rw [hk13] at h; cases h
              | some z =>
                obtain ⟨y11, D12⟩ := z
                rw [hk13] at h
                dsimp only at h
                refine ay_t_call (pc := 70) (w := some (.int y11)) fe_126_70 (ay_args [.ref 321] [] rfl rfl (Nat.le_of_ble_eq_true rfl) (Nat.le_of_ble_eq_true rfl)) (ay_rcvV at_321 rfl) (ev_123 hk13) ?_
                by_cases hc14 : y11 = 0
                · rw [if_pos hc14] at h
                  refine ay_t_pos (pc := 73) hc14 fe_126_73 rfl ?_
                  refine ay_t_stk (pc := 80) (S' := [.int 0]) fe_126_80 rfl ?_
                  refine ay_t_loc (pc := 81) (L' := [some (.ref 321), some (.int x1), some (.int 0)]) fe_126_81 rfl ?_
                  refine ay_t_br (pc := 82) (pc' := 15) fe_126_82 rfl ?_
                  exact ay_t_less (ay_ls (ay_ls (ay_ls ay_l0))) (ih _ _ _ _ _ h)
                · rw [if_neg hc14] at h
                  refine ay_t_neg (pc := 73) hc14 fe_126_73 rfl ?_
                  refine ay_t_stk (pc := 76) (S' := [.int 1]) fe_126_76 rfl ?_
                  refine ay_t_br (pc := 77) (pc' := 81) fe_126_77 rfl ?_
                  refine ay_t_loc (pc := 81) (L' := [some (.ref 321), some (.int x1), some (.int 1)]) fe_126_81 rfl ?_
                  refine ay_t_br (pc := 82) (pc' := 15) fe_126_82 rfl ?_
                  exact ay_t_less (ay_ls (ay_ls (ay_ls ay_l0))) (ih _ _ _ _ _ h)
        · rw [if_neg hc6] at h
          refine ay_t_neg (pc := 55) hc6 fe_126_55 rfl ?_
          refine ay_t_stk (pc := 58) (S' := [.int 1]) fe_126_58 rfl ?_
          cases h
          exact ay_t_iret fe_126_59 rfl rfl
      · rw [if_neg hc5] at h
        refine ay_t_neg (pc := 20) hc5 fe_126_20 rfl ?_
        refine ay_t_loc (pc := 23) fe_126_23 rfl ?_
        cases hk17 : fn_124 D with
        | none => rw [hk17] at h; cases h
        | some z =>
          obtain ⟨y15, D16⟩ := z
          rw [hk17] at h
          dsimp only at h
          refine ay_t_call (pc := 24) (w := some (.int y15)) fe_126_24 (ay_args [.ref 321] [] rfl rfl (Nat.le_of_ble_eq_true rfl) (Nat.le_of_ble_eq_true rfl)) (ay_rcvV at_321 rfl) (ev_124 hk17) ?_
          by_cases hc18 : ¬ y15 = 0
          · rw [if_pos hc18] at h
            refine ay_t_pos (pc := 27) hc18 fe_126_27 rfl ?_
            refine ay_t_loc (pc := 32) fe_126_32 rfl ?_
            cases hk21 : fn_125 D16 with
            | none => rw [hk21] at h; cases h
            | some z =>
              obtain ⟨y19, D20⟩ := z
              rw [hk21] at h
              dsimp only at h
              refine ay_t_call (pc := 33) (w := some (.int y19)) fe_126_33 (ay_args [.ref 321] [] rfl rfl (Nat.le_of_ble_eq_true rfl) (Nat.le_of_ble_eq_true rfl)) (ay_rcvV at_321 rfl) (ev_125 hk21) ?_
              refine ay_t_stk (pc := 36) (S' := []) fe_126_36 rfl ?_
              refine ay_t_loc (pc := 37) fe_126_37 rfl ?_
              refine ay_t_stk (pc := 38) (S' := [.ref 321, .ref 321]) fe_126_38 rfl ?_
              refine ay_t_getI (pc := 39) fe_126_39 at_321 (by decide +kernel) rfl ?_
              refine ay_t_stk (pc := 42) (S' := [.int 1, .int (D20 321 12), .ref 321]) fe_126_42 rfl ?_
              refine ay_t_stk (pc := 43) (S' := [.int ((D20 321 12) + 1), .ref 321]) fe_126_43 rfl ?_
              refine ay_t_put (pc := 44) fe_126_44 at_321 (by decide +kernel) rfl rfl ?_
              refine ay_t_loc (pc := 47) fe_126_47 rfl ?_
              refine ay_t_getI (pc := 48) fe_126_48 at_321 (by decide +kernel) rfl ?_
              refine ay_t_loc (pc := 51) fe_126_51 rfl ?_
              refine ay_t_getI (pc := 52) fe_126_52 at_321 (by decide +kernel) rfl ?_
              by_cases hc22 : ¬ ((am_upd D20 321 12 ((D20 321 12) + 1)) 321 9) = ((am_upd D20 321 12 ((D20 321 12) + 1)) 321 6)
              · rw [if_pos hc22] at h
                refine ay_t_pos (pc := 55) hc22 fe_126_55 rfl ?_
                refine ay_t_loc (pc := 60) fe_126_60 rfl ?_
                refine ay_t_stk (pc := 61) (S' := [.int 59, .ref 321]) fe_126_61 rfl ?_
                cases hk25 : fn_121 59 (am_upd D20 321 12 ((D20 321 12) + 1)) with
                | none => rw [hk25] at h; cases h
                | some z =>
                  obtain ⟨y23, D24⟩ := z
                  rw [hk25] at h
                  dsimp only at h
                  refine ay_t_call (pc := 63) (w := some (.int y23)) fe_126_63 (ay_args [.ref 321, .int 59] [] rfl rfl (Nat.le_of_ble_eq_true rfl) (Nat.le_of_ble_eq_true rfl)) (ay_rcvV at_321 rfl) (ev_121 hk25) ?_
                  by_cases hc26 : y23 = 0
                  · rw [if_pos hc26] at h
                    refine ay_t_pos (pc := 66) hc26 fe_126_66 rfl ?_
                    refine ay_t_stk (pc := 80) (S' := [.int 0]) fe_126_80 rfl ?_
                    refine ay_t_loc (pc := 81) (L' := [some (.ref 321), some (.int x1), some (.int 0)]) fe_126_81 rfl ?_
                    refine ay_t_br (pc := 82) (pc' := 15) fe_126_82 rfl ?_
                    exact ay_t_less (ay_ls (ay_ls (ay_ls ay_l0))) (ih _ _ _ _ _ h)
                  · rw [if_neg hc26] at h
                    refine ay_t_neg (pc := 66) hc26 fe_126_66 rfl ?_
                    refine ay_t_loc (pc := 69) fe_126_69 rfl ?_
                    cases hk29 : fn_123 D24 with
                    | none => rw [hk29] at h; cases h
                    | some z =>
                      obtain ⟨y27, D28⟩ := z
                      rw [hk29] at h
                      dsimp only at h
                      refine ay_t_call (pc := 70) (w := some (.int y27)) fe_126_70 (ay_args [.ref 321] [] rfl rfl (Nat.le_of_ble_eq_true rfl) (Nat.le_of_ble_eq_true rfl)) (ay_rcvV at_321 rfl) (ev_123 hk29) ?_
                      by_cases hc30 : y27 = 0
                      · rw [if_pos hc30] at h
                        refine ay_t_pos (pc := 73) hc30 fe_126_73 rfl ?_
                        refine ay_t_stk (pc := 80) (S' := [.int 0]) fe_126_80 rfl ?_
                        refine ay_t_loc (pc := 81) (L' := [some (.ref 321), some (.int x1), some (.int 0)]) fe_126_81 rfl ?_
                        refine ay_t_br (pc := 82) (pc' := 15) fe_126_82 rfl ?_
                        exact ay_t_less (ay_ls (ay_ls (ay_ls ay_l0))) (ih _ _ _ _ _ h)
                      · rw [if_neg hc30] at h
                        refine ay_t_neg (pc := 73) hc30 fe_126_73 rfl ?_
                        refine ay_t_stk (pc := 76) (S' := [.int 1]) fe_126_76 rfl ?_
                        refine ay_t_br (pc := 77) (pc' := 81) fe_126_77 rfl ?_
                        refine ay_t_loc (pc := 81) (L' := [some (.ref 321), some (.int x1), some (.int 1)]) fe_126_81 rfl ?_
                        refine ay_t_br (pc := 82) (pc' := 15) fe_126_82 rfl ?_
                        exact ay_t_less (ay_ls (ay_ls (ay_ls ay_l0))) (ih _ _ _ _ _ h)
              · rw [if_neg hc22] at h
                refine ay_t_neg (pc := 55) hc22 fe_126_55 rfl ?_
                refine ay_t_stk (pc := 58) (S' := [.int 1]) fe_126_58 rfl ?_
                cases h
                exact ay_t_iret fe_126_59 rfl rfl
          · rw [if_neg hc18] at h
            refine ay_t_neg (pc := 27) hc18 fe_126_27 rfl ?_
            refine ay_t_stk (pc := 30) (S' := [.int 1]) fe_126_30 rfl ?_
            cases h
            exact ay_t_iret fe_126_31 rfl rfl
def fn_126 (a1 : Int32) (D : am_DD) : Option (Int32 × am_DD) := (match fn_123 (am_upd (am_upd D 321 9 0) 321 12 0) with | none => none | some (y1, D2) => fn_126_15 am_F a1 y1 D2)
set_option maxHeartbeats 2000000 in
theorem ev_126 {a1 : Int32} {D : am_DD} {y : Int32} {Z : am_DD} (h : fn_126 a1 D = some (y, Z)) : ay_mo 126 [.ref 321, .int a1] D (.inl (some (.int y))) Z := by
  unfold fn_126 at h
  refine ay_m_of (L := [some (.ref 321), some (.int a1), none]) rfl ?_
  refine ay_t_loc (pc := 0) fe_126_0 rfl ?_
  refine ay_t_stk (pc := 1) (S' := [.int 0, .ref 321]) fe_126_1 rfl ?_
  refine ay_t_put (pc := 2) fe_126_2 at_321 (by decide +kernel) rfl rfl ?_
  refine ay_t_loc (pc := 5) fe_126_5 rfl ?_
  refine ay_t_stk (pc := 6) (S' := [.int 0, .ref 321]) fe_126_6 rfl ?_
  refine ay_t_put (pc := 7) fe_126_7 at_321 (by decide +kernel) rfl rfl ?_
  refine ay_t_loc (pc := 10) fe_126_10 rfl ?_
  cases hk3 : fn_123 (am_upd (am_upd D 321 9 0) 321 12 0) with
  | none => rw [hk3] at h; cases h
  | some z =>
    obtain ⟨y1, D2⟩ := z
    rw [hk3] at h
    dsimp only at h
    refine ay_t_call (pc := 11) (w := some (.int y1)) fe_126_11 (ay_args [.ref 321] [] rfl rfl (Nat.le_of_ble_eq_true rfl) (Nat.le_of_ble_eq_true rfl)) (ay_rcvV at_321 rfl) (ev_123 hk3) ?_
    refine ay_t_loc (pc := 14) (L' := [some (.ref 321), some (.int a1), some (.int y1)]) fe_126_14 rfl ?_
    exact ay_t_less (ay_ls (ay_ls (ay_ls ay_l0))) (ev_126_15 _ _ _ _ _ _ h)
def fn_127 (D : am_DD) : Option (Int32 × am_DD) := (match fn_126 0 (am_upd D 321 7 0) with | none => none | some (y1, D2) => (if y1 = 0 then some ((D2 321 9), D2) else some ((D2 321 6), D2)))
set_option maxHeartbeats 2000000 in
theorem ev_127 {D : am_DD} {y : Int32} {Z : am_DD} (h : fn_127  D = some (y, Z)) : ay_mo 127 [.ref 321] D (.inl (some (.int y))) Z := by
  unfold fn_127 at h
  refine ay_m_of (L := [some (.ref 321)]) rfl ?_
  refine ay_t_loc (pc := 0) fe_127_0 rfl ?_
  refine ay_t_stk (pc := 1) (S' := [.int 0, .ref 321]) fe_127_1 rfl ?_
  refine ay_t_put (pc := 2) fe_127_2 at_321 (by decide +kernel) rfl rfl ?_
  refine ay_t_loc (pc := 5) fe_127_5 rfl ?_
  refine ay_t_stk (pc := 6) (S' := [.int 0, .ref 321]) fe_127_6 rfl ?_
  cases hk3 : fn_126 0 (am_upd D 321 7 0) with
  | none => rw [hk3] at h; cases h
  | some z =>
    obtain ⟨y1, D2⟩ := z
    rw [hk3] at h
    dsimp only at h
    refine ay_t_call (pc := 7) (w := some (.int y1)) fe_127_7 (ay_args [.ref 321, .int 0] [] rfl rfl (Nat.le_of_ble_eq_true rfl) (Nat.le_of_ble_eq_true rfl)) (ay_rcvV at_321 rfl) (ev_126 hk3) ?_
    by_cases hc4 : y1 = 0
    · rw [if_pos hc4] at h
      refine ay_t_pos (pc := 10) hc4 fe_127_10 rfl ?_
      refine ay_t_loc (pc := 20) fe_127_20 rfl ?_
      refine ay_t_getI (pc := 21) fe_127_21 at_321 (by decide +kernel) rfl ?_
      cases h
      exact ay_t_iret fe_127_24 rfl rfl
    · rw [if_neg hc4] at h
      refine ay_t_neg (pc := 10) hc4 fe_127_10 rfl ?_
      refine ay_t_loc (pc := 13) fe_127_13 rfl ?_
      refine ay_t_getI (pc := 14) fe_127_14 at_321 (by decide +kernel) rfl ?_
      refine ay_t_br (pc := 17) (pc' := 24) fe_127_17 rfl ?_
      cases h
      exact ay_t_iret fe_127_24 rfl rfl
def fn_128 (D : am_DD) : Option (Int32 × am_DD) := (match fn_117 D with | none => none | some (y1, D2) => (if ¬ y1 = (D2 45 0) then some (0, D2) else (match fn_104 D2 with | none => none | some (y5, D6) => (if y5 = 0 then some (0, D6) else some (1, D6)))))
set_option maxHeartbeats 2000000 in
theorem ev_128 {D : am_DD} {y : Int32} {Z : am_DD} (h : fn_128  D = some (y, Z)) : ay_mo 128 [.ref 45] D (.inl (some (.int y))) Z := by
  unfold fn_128 at h
  refine ay_m_of (L := [some (.ref 45)]) rfl ?_
  refine ay_t_loc (pc := 0) fe_128_0 rfl ?_
  cases hk3 : fn_117 D with
  | none => rw [hk3] at h; cases h
  | some z =>
    obtain ⟨y1, D2⟩ := z
    rw [hk3] at h
    dsimp only at h
    refine ay_t_call (pc := 1) (w := some (.int y1)) fe_128_1 (ay_args [.ref 45] [] rfl rfl (Nat.le_of_ble_eq_true rfl) (Nat.le_of_ble_eq_true rfl)) (ay_rcvV at_45 rfl) (ev_117 hk3) ?_
    refine ay_t_loc (pc := 4) fe_128_4 rfl ?_
    refine ay_t_getI (pc := 5) fe_128_5 at_45 (by decide +kernel) rfl ?_
    by_cases hc4 : ¬ y1 = (D2 45 0)
    · rw [if_pos hc4] at h
      refine ay_t_pos (pc := 8) hc4 fe_128_8 rfl ?_
      refine ay_t_stk (pc := 22) (S' := [.int 0]) fe_128_22 rfl ?_
      cases h
      exact ay_t_iret fe_128_23 rfl rfl
    · rw [if_neg hc4] at h
      refine ay_t_neg (pc := 8) hc4 fe_128_8 rfl ?_
      refine ay_t_loc (pc := 11) fe_128_11 rfl ?_
      cases hk7 : fn_104 D2 with
      | none => rw [hk7] at h; cases h
      | some z =>
        obtain ⟨y5, D6⟩ := z
        rw [hk7] at h
        dsimp only at h
        refine ay_t_call (pc := 12) (w := some (.int y5)) fe_128_12 (ay_args [.ref 45] [] rfl rfl (Nat.le_of_ble_eq_true rfl) (Nat.le_of_ble_eq_true rfl)) (ay_rcvV at_45 rfl) (ev_104 hk7) ?_
        by_cases hc8 : y5 = 0
        · rw [if_pos hc8] at h
          refine ay_t_pos (pc := 15) hc8 fe_128_15 rfl ?_
          refine ay_t_stk (pc := 22) (S' := [.int 0]) fe_128_22 rfl ?_
          cases h
          exact ay_t_iret fe_128_23 rfl rfl
        · rw [if_neg hc8] at h
          refine ay_t_neg (pc := 15) hc8 fe_128_15 rfl ?_
          refine ay_t_stk (pc := 18) (S' := [.int 1]) fe_128_18 rfl ?_
          refine ay_t_br (pc := 19) (pc' := 23) fe_128_19 rfl ?_
          cases h
          exact ay_t_iret fe_128_23 rfl rfl
def fn_129 (D : am_DD) : Option (Int32 × am_DD) := some (((D 45 3) + 1), D)
set_option maxHeartbeats 2000000 in
theorem ev_129 {D : am_DD} {y : Int32} {Z : am_DD} (h : fn_129  D = some (y, Z)) : ay_mo 129 [.ref 45] D (.inl (some (.int y))) Z := by
  unfold fn_129 at h
  refine ay_m_of (L := [some (.ref 45)]) rfl ?_
  refine ay_t_loc (pc := 0) fe_129_0 rfl ?_
  refine ay_t_getI (pc := 1) fe_129_1 at_45 (by decide +kernel) rfl ?_
  refine ay_t_stk (pc := 4) (S' := [.int 1, .int (D 45 3)]) fe_129_4 rfl ?_
  refine ay_t_stk (pc := 5) (S' := [.int ((D 45 3) + 1)]) fe_129_5 rfl ?_
  cases h
  exact ay_t_iret fe_129_6 rfl rfl
def fn_130 (a1 : Int32) (D : am_DD) : Option (Int32 × am_DD) := some ((rw_at (D 51) 20 a1), D)
set_option maxHeartbeats 2000000 in
theorem ev_130 {a1 : Int32} {D : am_DD} {y : Int32} {Z : am_DD} (h : fn_130 a1 D = some (y, Z)) : ay_mo 130 [.ref 45, .int a1] D (.inl (some (.int y))) Z := by
  unfold fn_130 at h
  refine ay_m_of (L := [some (.ref 45), some (.int a1)]) rfl ?_
  refine ay_t_loc (pc := 0) fe_130_0 rfl ?_
  refine ay_t_getR (pc := 1) (w := .ref 50) fe_130_1 at_45 (by decide +kernel) rfl ?_
  refine ay_t_loc (pc := 4) fe_130_4 rfl ?_
  refine ay_t_call (pc := 5) (w := some (.int (rw_at (D 51) 20 a1))) fe_130_5 (ay_args [.ref 50, .int a1] [] rfl rfl (Nat.le_of_ble_eq_true rfl) (Nat.le_of_ble_eq_true rfl)) (ay_rcvV at_50 rfl) (mt_at at_50 at_51 (by decide)) ?_
  cases h
  exact ay_t_iret fe_130_8 rfl rfl
def fn_131 (a1 : Int32) (D : am_DD) : Option (Int32 × am_DD) := some ((rw_at (D 49) 20 a1), D)
set_option maxHeartbeats 2000000 in
theorem ev_131 {a1 : Int32} {D : am_DD} {y : Int32} {Z : am_DD} (h : fn_131 a1 D = some (y, Z)) : ay_mo 131 [.ref 45, .int a1] D (.inl (some (.int y))) Z := by
  unfold fn_131 at h
  refine ay_m_of (L := [some (.ref 45), some (.int a1)]) rfl ?_
  refine ay_t_loc (pc := 0) fe_131_0 rfl ?_
  refine ay_t_getR (pc := 1) (w := .ref 48) fe_131_1 at_45 (by decide +kernel) rfl ?_
  refine ay_t_loc (pc := 4) fe_131_4 rfl ?_
  refine ay_t_call (pc := 5) (w := some (.int (rw_at (D 49) 20 a1))) fe_131_5 (ay_args [.ref 48, .int a1] [] rfl rfl (Nat.le_of_ble_eq_true rfl) (Nat.le_of_ble_eq_true rfl)) (ay_rcvV at_48 rfl) (mt_at at_48 at_49 (by decide)) ?_
  cases h
  exact ay_t_iret fe_131_8 rfl rfl
def fn_132 (a1 : Int32) (D : am_DD) : Option (Int32 × am_DD) := some ((rw_at (D 55) 20 a1), D)
set_option maxHeartbeats 2000000 in
theorem ev_132 {a1 : Int32} {D : am_DD} {y : Int32} {Z : am_DD} (h : fn_132 a1 D = some (y, Z)) : ay_mo 132 [.ref 45, .int a1] D (.inl (some (.int y))) Z := by
  unfold fn_132 at h
  refine ay_m_of (L := [some (.ref 45), some (.int a1)]) rfl ?_
  refine ay_t_loc (pc := 0) fe_132_0 rfl ?_
  refine ay_t_getR (pc := 1) (w := .ref 54) fe_132_1 at_45 (by decide +kernel) rfl ?_
  refine ay_t_loc (pc := 4) fe_132_4 rfl ?_
  refine ay_t_call (pc := 5) (w := some (.int (rw_at (D 55) 20 a1))) fe_132_5 (ay_args [.ref 54, .int a1] [] rfl rfl (Nat.le_of_ble_eq_true rfl) (Nat.le_of_ble_eq_true rfl)) (ay_rcvV at_54 rfl) (mt_at at_54 at_55 (by decide)) ?_
  cases h
  exact ay_t_iret fe_132_8 rfl rfl
