/-! methods as functions, with what am_run does (written by wip/whole/gen6.py) -/
def fn_133 (a1 a2 : Int32) (D : am_DD) : Option (Int32 × am_DD) := (match fn_131 a1 D with | none => none | some (y1, D2) => (if y1 = 100 then (match fn_64 a2 D2 with | none => none | some (y5, D6) => (if ay_isb y5 then some (y5, D6) else none)) else (if y1 = 101 then (match fn_132 a1 D2 with | none => none | some (y10, D11) => (match fn_36 a2 D11 with | none => none | some (y13, D14) => (if y13 = 0 then some (0, D14) else (match fn_38 y10 D14 with | none => none | some (y17, D18) => (if y17 = 0 then some (0, D18) else (if y10 ≤ a2 then some (0, D18) else some (1, D18))))))) else (if y1 = 103 then (match fn_14 D2 with | none => none | some (y23, D24) => (if ay_isb y23 then some (y23, D24) else none)) else (if y1 = 116 then some (1, D2) else (match fn_36 a2 D2 with | none => none | some (y28, D29) => (if ay_isb y28 then some (y28, D29) else none)))))))
set_option maxHeartbeats 2000000 in
theorem ev_133 {a1 a2 : Int32} {D : am_DD} {y : Int32} {Z : am_DD} (h : fn_133 a1 a2 D = some (y, Z)) : ay_mo 133 [.ref 0, .int a1, .int a2] D (.inl (some (.int y))) Z := by
  unfold fn_133 at h
  refine ay_m_of (L := [some (.ref 0), some (.int a1), some (.int a2), none]) rfl ?_
  refine ay_t_loc (pc := 0) fe_133_0 rfl ?_
  refine ay_t_getR (pc := 1) (w := .ref 45) fe_133_1 at_0 (by decide +kernel) rfl ?_
  refine ay_t_loc (pc := 4) fe_133_4 rfl ?_
  cases hk3 : fn_131 a1 D with
  | none => rw [hk3] at h; cases h
  | some z =>
    obtain ⟨y1, D2⟩ := z
    rw [hk3] at h
    dsimp only at h
    refine ay_t_call (pc := 5) (w := some (.int y1)) fe_133_5 (ay_args [.ref 45, .int a1] [] rfl rfl (Nat.le_of_ble_eq_true rfl) (Nat.le_of_ble_eq_true rfl)) (ay_rcvV at_45 rfl) (ev_131 hk3) ?_
    by_cases hc4 : y1 = 100
    · rw [if_pos hc4] at h
      refine ay_t_br (pc := 8) (pc' := 111) (S' := []) fe_133_8 (by rw [hc4]; rfl) ?_
      refine ay_t_loc (pc := 111) fe_133_111 rfl ?_
      refine ay_t_getR (pc := 112) (w := .ref 1) fe_133_112 at_0 (by decide +kernel) rfl ?_
      refine ay_t_loc (pc := 115) fe_133_115 rfl ?_
      cases hk7 : fn_64 a2 D2 with
      | none => rw [hk7] at h; cases h
      | some z =>
        obtain ⟨y5, D6⟩ := z
        rw [hk7] at h
        dsimp only at h
        refine ay_t_call (pc := 116) (w := some (.int y5)) fe_133_116 (ay_args [.ref 1, .int a2] [] rfl rfl (Nat.le_of_ble_eq_true rfl) (Nat.le_of_ble_eq_true rfl)) (ay_rcvV at_1 rfl) (ev_64 hk7) ?_
        by_cases hn8 : ay_isb y5
        · rw [if_pos hn8] at h
          cases h
          exact ay_t_zret fe_133_119 rfl hn8
        · rw [if_neg hn8] at h; cases h
    · rw [if_neg hc4] at h
      by_cases hc9 : y1 = 101
      · rw [if_pos hc9] at h
        refine ay_t_br (pc := 8) (pc' := 63) (S' := []) fe_133_8 (by rw [hc9]; rfl) ?_
        refine ay_t_loc (pc := 63) fe_133_63 rfl ?_
        refine ay_t_getR (pc := 64) (w := .ref 45) fe_133_64 at_0 (by decide +kernel) rfl ?_
        refine ay_t_loc (pc := 67) fe_133_67 rfl ?_
        cases hk12 : fn_132 a1 D2 with
        | none => rw [hk12] at h; cases h
        | some z =>
          obtain ⟨y10, D11⟩ := z
          rw [hk12] at h
          dsimp only at h
          refine ay_t_call (pc := 68) (w := some (.int y10)) fe_133_68 (ay_args [.ref 45, .int a1] [] rfl rfl (Nat.le_of_ble_eq_true rfl) (Nat.le_of_ble_eq_true rfl)) (ay_rcvV at_45 rfl) (ev_132 hk12) ?_
          refine ay_t_loc (pc := 71) (L' := [some (.ref 0), some (.int a1), some (.int a2), some (.int y10)]) fe_133_71 rfl ?_
          refine ay_t_loc (pc := 72) fe_133_72 rfl ?_
          refine ay_t_getR (pc := 73) (w := .ref 1) fe_133_73 at_0 (by decide +kernel) rfl ?_
          refine ay_t_getR (pc := 76) (w := .ref 8) fe_133_76 at_1 (by decide +kernel) rfl ?_
          refine ay_t_loc (pc := 79) fe_133_79 rfl ?_
          cases hk15 : fn_36 a2 D11 with
          | none => rw [hk15] at h; cases h
          | some z =>
            obtain ⟨y13, D14⟩ := z
            rw [hk15] at h
            dsimp only at h
            refine ay_t_call (pc := 80) (w := some (.int y13)) fe_133_80 (ay_args [.ref 8, .int a2] [] rfl rfl (Nat.le_of_ble_eq_true rfl) (Nat.le_of_ble_eq_true rfl)) (ay_rcvV at_8 rfl) (ev_36 hk15) ?_
            by_cases hc16 : y13 = 0
            · rw [if_pos hc16] at h
              refine ay_t_pos (pc := 83) hc16 fe_133_83 rfl ?_
              refine ay_t_stk (pc := 109) (S' := [.int 0]) fe_133_109 rfl ?_
              cases h
              exact ay_t_iret fe_133_110 rfl rfl
            · rw [if_neg hc16] at h
              refine ay_t_neg (pc := 83) hc16 fe_133_83 rfl ?_
              refine ay_t_loc (pc := 86) fe_133_86 rfl ?_
              refine ay_t_getR (pc := 87) (w := .ref 1) fe_133_87 at_0 (by decide +kernel) rfl ?_
              refine ay_t_getR (pc := 90) (w := .ref 8) fe_133_90 at_1 (by decide +kernel) rfl ?_
              refine ay_t_loc (pc := 93) fe_133_93 rfl ?_
              cases hk19 : fn_38 y10 D14 with
              | none => rw [hk19] at h; cases h
              | some z =>
                obtain ⟨y17, D18⟩ := z
                rw [hk19] at h
                dsimp only at h
                refine ay_t_call (pc := 94) (w := some (.int y17)) fe_133_94 (ay_args [.ref 8, .int y10] [] rfl rfl (Nat.le_of_ble_eq_true rfl) (Nat.le_of_ble_eq_true rfl)) (ay_rcvV at_8 rfl) (ev_38 hk19) ?_
                by_cases hc20 : y17 = 0
                · rw [if_pos hc20] at h
                  refine ay_t_pos (pc := 97) hc20 fe_133_97 rfl ?_
                  refine ay_t_stk (pc := 109) (S' := [.int 0]) fe_133_109 rfl ?_
                  cases h
                  exact ay_t_iret fe_133_110 rfl rfl
                · rw [if_neg hc20] at h
                  refine ay_t_neg (pc := 97) hc20 fe_133_97 rfl ?_
                  refine ay_t_loc (pc := 100) fe_133_100 rfl ?_
                  refine ay_t_loc (pc := 101) fe_133_101 rfl ?_
                  by_cases hc21 : y10 ≤ a2
                  · rw [if_pos hc21] at h
                    refine ay_t_pos (pc := 102) hc21 fe_133_102 rfl ?_
                    refine ay_t_stk (pc := 109) (S' := [.int 0]) fe_133_109 rfl ?_
                    cases h
                    exact ay_t_iret fe_133_110 rfl rfl
                  · rw [if_neg hc21] at h
                    refine ay_t_neg (pc := 102) hc21 fe_133_102 rfl ?_
                    refine ay_t_stk (pc := 105) (S' := [.int 1]) fe_133_105 rfl ?_
                    refine ay_t_br (pc := 106) (pc' := 110) fe_133_106 rfl ?_
                    cases h
                    exact ay_t_iret fe_133_110 rfl rfl
      · rw [if_neg hc9] at h
        by_cases hc22 : y1 = 103
        · rw [if_pos hc22] at h
          refine ay_t_br (pc := 8) (pc' := 52) (S' := []) fe_133_8 (by rw [hc22]; rfl) ?_
          refine ay_t_loc (pc := 52) fe_133_52 rfl ?_
          refine ay_t_getR (pc := 53) (w := .ref 1) fe_133_53 at_0 (by decide +kernel) rfl ?_
          refine ay_t_getR (pc := 56) (w := .ref 8) fe_133_56 at_1 (by decide +kernel) rfl ?_
          cases hk25 : fn_14 D2 with
          | none => rw [hk25] at h; cases h
          | some z =>
            obtain ⟨y23, D24⟩ := z
            rw [hk25] at h
            dsimp only at h
            refine ay_t_call (pc := 59) (w := some (.int y23)) fe_133_59 (ay_args [.ref 8] [] rfl rfl (Nat.le_of_ble_eq_true rfl) (Nat.le_of_ble_eq_true rfl)) (ay_rcvV at_8 rfl) (ev_14 hk25) ?_
            by_cases hn26 : ay_isb y23
            · rw [if_pos hn26] at h
              cases h
              exact ay_t_zret fe_133_62 rfl hn26
            · rw [if_neg hn26] at h; cases h
        · rw [if_neg hc22] at h
          by_cases hc27 : y1 = 116
          · rw [if_pos hc27] at h
            refine ay_t_br (pc := 8) (pc' := 120) (S' := []) fe_133_8 (by rw [hc27]; rfl) ?_
            refine ay_t_stk (pc := 120) (S' := [.int 1]) fe_133_120 rfl ?_
            cases h
            exact ay_t_iret fe_133_121 rfl rfl
          · rw [if_neg hc27] at h
            refine ay_t_br (pc := 8) (pc' := 122) fe_133_8 (ay_look_def (x := y1) (by simp only [List.toList_toArray, Op.lookupswitch.offset_cons, Op.lookupswitch.offset_nil, if_neg (Ne.symm (ay_ne_toInt (c := 100) hc4 (by decide))), if_neg (Ne.symm (ay_ne_toInt (c := 101) hc9 (by decide))), if_neg (Ne.symm (ay_ne_toInt (c := 103) hc22 (by decide))), if_neg (Ne.symm (ay_ne_toInt (c := 116) hc27 (by decide)))]) rfl) ?_
            refine ay_t_loc (pc := 122) fe_133_122 rfl ?_
            refine ay_t_getR (pc := 123) (w := .ref 1) fe_133_123 at_0 (by decide +kernel) rfl ?_
            refine ay_t_getR (pc := 126) (w := .ref 8) fe_133_126 at_1 (by decide +kernel) rfl ?_
            refine ay_t_loc (pc := 129) fe_133_129 rfl ?_
            cases hk30 : fn_36 a2 D2 with
            | none => rw [hk30] at h; cases h
            | some z =>
              obtain ⟨y28, D29⟩ := z
              rw [hk30] at h
              dsimp only at h
              refine ay_t_call (pc := 130) (w := some (.int y28)) fe_133_130 (ay_args [.ref 8, .int a2] [] rfl rfl (Nat.le_of_ble_eq_true rfl) (Nat.le_of_ble_eq_true rfl)) (ay_rcvV at_8 rfl) (ev_36 hk30) ?_
              by_cases hn31 : ay_isb y28
              · rw [if_pos hn31] at h
                cases h
                exact ay_t_zret fe_133_133 rfl hn31
              · rw [if_neg hn31] at h; cases h
def fn_134 (a1 : Int32) (D : am_DD) : Option (Int32 × am_DD) := some ((rw_at (D 53) 20 a1), D)
set_option maxHeartbeats 2000000 in
theorem ev_134 {a1 : Int32} {D : am_DD} {y : Int32} {Z : am_DD} (h : fn_134 a1 D = some (y, Z)) : ay_mo 134 [.ref 45, .int a1] D (.inl (some (.int y))) Z := by
  unfold fn_134 at h
  refine ay_m_of (L := [some (.ref 45), some (.int a1)]) rfl ?_
  refine ay_t_loc (pc := 0) fe_134_0 rfl ?_
  refine ay_t_getR (pc := 1) (w := .ref 52) fe_134_1 at_45 (by decide +kernel) rfl ?_
  refine ay_t_loc (pc := 4) fe_134_4 rfl ?_
  refine ay_t_call (pc := 5) (w := some (.int (rw_at (D 53) 20 a1))) fe_134_5 (ay_args [.ref 52, .int a1] [] rfl rfl (Nat.le_of_ble_eq_true rfl) (Nat.le_of_ble_eq_true rfl)) (ay_rcvV at_52 rfl) (mt_at at_52 at_53 (by decide)) ?_
  cases h
  exact ay_t_iret fe_134_8 rfl rfl
def fn_135 (a1 : Int32) (D : am_DD) : Option (Int32 × am_DD) := (match fn_130 a1 D with | none => none | some (y1, D2) => (match fn_133 a1 y1 D2 with | none => none | some (y4, D5) => (if ¬ y4 = 0 then (match fn_131 a1 D5 with | none => none | some (y8, D9) => (if y8 = 100 then (match fn_65 y1 D9 with | none => none | some (y12, D13) => some (1, D13)) else (if y8 = 101 then (match fn_134 a1 D9 with | none => none | some (y16, D17) => (match fn_132 a1 D17 with | none => none | some (y19, D20) => (match fn_41 y1 y16 y19 D20 with | none => none | some (y22, D23) => some (1, D23)))) else (if y8 = 103 then (match fn_23 y1 D9 with | none => none | some (y26, D27) => some (1, D27)) else (if y8 = 116 then (match fn_80 y1 D9 with | none => none | some (y30, D31) => some (1, D31)) else (match fn_56 y1 D9 with | none => none | some (y33, D34) => some (1, D34))))))) else some (0, D5))))
set_option maxHeartbeats 2000000 in
theorem ev_135 {a1 : Int32} {D : am_DD} {y : Int32} {Z : am_DD} (h : fn_135 a1 D = some (y, Z)) : ay_mo 135 [.ref 0, .int a1] D (.inl (some (.int y))) Z := by
  unfold fn_135 at h
  refine ay_m_of (L := [some (.ref 0), some (.int a1), none]) rfl ?_
  refine ay_t_loc (pc := 0) fe_135_0 rfl ?_
  refine ay_t_getR (pc := 1) (w := .ref 45) fe_135_1 at_0 (by decide +kernel) rfl ?_
  refine ay_t_loc (pc := 4) fe_135_4 rfl ?_
  cases hk3 : fn_130 a1 D with
  | none => rw [hk3] at h; cases h
  | some z =>
    obtain ⟨y1, D2⟩ := z
    rw [hk3] at h
    dsimp only at h
    refine ay_t_call (pc := 5) (w := some (.int y1)) fe_135_5 (ay_args [.ref 45, .int a1] [] rfl rfl (Nat.le_of_ble_eq_true rfl) (Nat.le_of_ble_eq_true rfl)) (ay_rcvV at_45 rfl) (ev_130 hk3) ?_
    refine ay_t_loc (pc := 8) (L' := [some (.ref 0), some (.int a1), some (.int y1)]) fe_135_8 rfl ?_
    refine ay_t_loc (pc := 9) fe_135_9 rfl ?_
    refine ay_t_loc (pc := 10) fe_135_10 rfl ?_
    refine ay_t_loc (pc := 11) fe_135_11 rfl ?_
    cases hk6 : fn_133 a1 y1 D2 with
    | none => rw [hk6] at h; cases h
    | some z =>
      obtain ⟨y4, D5⟩ := z
      rw [hk6] at h
      dsimp only at h
      refine ay_t_call (pc := 12) (w := some (.int y4)) fe_135_12 (ay_args [.ref 0, .int a1, .int y1] [] rfl rfl (Nat.le_of_ble_eq_true rfl) (Nat.le_of_ble_eq_true rfl)) (ay_rcvV at_0 rfl) (ev_133 hk6) ?_
      by_cases hc7 : ¬ y4 = 0
      · rw [if_pos hc7] at h
        refine ay_t_pos (pc := 15) hc7 fe_135_15 rfl ?_
        refine ay_t_loc (pc := 20) fe_135_20 rfl ?_
        refine ay_t_getR (pc := 21) (w := .ref 45) fe_135_21 at_0 (by decide +kernel) rfl ?_
        refine ay_t_loc (pc := 24) fe_135_24 rfl ?_
        cases hk10 : fn_131 a1 D5 with
        | none => rw [hk10] at h; cases h
        | some z =>
          obtain ⟨y8, D9⟩ := z
          rw [hk10] at h
          dsimp only at h
          refine ay_t_call (pc := 25) (w := some (.int y8)) fe_135_25 (ay_args [.ref 45, .int a1] [] rfl rfl (Nat.le_of_ble_eq_true rfl) (Nat.le_of_ble_eq_true rfl)) (ay_rcvV at_45 rfl) (ev_131 hk10) ?_
          by_cases hc11 : y8 = 100
          · rw [if_pos hc11] at h
            refine ay_t_br (pc := 28) (pc' := 118) (S' := []) fe_135_28 (by rw [hc11]; rfl) ?_
            refine ay_t_loc (pc := 118) fe_135_118 rfl ?_
            refine ay_t_getR (pc := 119) (w := .ref 1) fe_135_119 at_0 (by decide +kernel) rfl ?_
            refine ay_t_loc (pc := 122) fe_135_122 rfl ?_
            cases hk14 : fn_65 y1 D9 with
            | none => rw [hk14] at h; cases h
            | some z =>
              obtain ⟨y12, D13⟩ := z
              rw [hk14] at h
              dsimp only at h
              refine ay_t_call (pc := 123) (w := some (.int y12)) fe_135_123 (ay_args [.ref 1, .int y1] [] rfl rfl (Nat.le_of_ble_eq_true rfl) (Nat.le_of_ble_eq_true rfl)) (ay_rcvV at_1 rfl) (ev_65 hk14) ?_
              refine ay_t_stk (pc := 126) (S' := []) fe_135_126 rfl ?_
              refine ay_t_br (pc := 127) (pc' := 154) fe_135_127 rfl ?_
              refine ay_t_stk (pc := 154) (S' := [.int 1]) fe_135_154 rfl ?_
              cases h
              exact ay_t_iret fe_135_155 rfl rfl
          · rw [if_neg hc11] at h
            by_cases hc15 : y8 = 101
            · rw [if_pos hc15] at h
              refine ay_t_br (pc := 28) (pc' := 87) (S' := []) fe_135_28 (by rw [hc15]; rfl) ?_
              refine ay_t_loc (pc := 87) fe_135_87 rfl ?_
              refine ay_t_getR (pc := 88) (w := .ref 1) fe_135_88 at_0 (by decide +kernel) rfl ?_
              refine ay_t_getR (pc := 91) (w := .ref 8) fe_135_91 at_1 (by decide +kernel) rfl ?_
              refine ay_t_loc (pc := 94) fe_135_94 rfl ?_
              refine ay_t_loc (pc := 95) fe_135_95 rfl ?_
              refine ay_t_getR (pc := 96) (w := .ref 45) fe_135_96 at_0 (by decide +kernel) rfl ?_
              refine ay_t_loc (pc := 99) fe_135_99 rfl ?_
              cases hk18 : fn_134 a1 D9 with
              | none => rw [hk18] at h; cases h
              | some z =>
                obtain ⟨y16, D17⟩ := z
                rw [hk18] at h
                dsimp only at h
                refine ay_t_call (pc := 100) (w := some (.int y16)) fe_135_100 (ay_args [.ref 45, .int a1] [.int y1, .ref 8] rfl rfl (Nat.le_of_ble_eq_true rfl) (Nat.le_of_ble_eq_true rfl)) (ay_rcvV at_45 rfl) (ev_134 hk18) ?_
                refine ay_t_loc (pc := 103) fe_135_103 rfl ?_
                refine ay_t_getR (pc := 104) (w := .ref 45) fe_135_104 at_0 (by decide +kernel) rfl ?_
                refine ay_t_loc (pc := 107) fe_135_107 rfl ?_
                cases hk21 : fn_132 a1 D17 with
                | none => rw [hk21] at h; cases h
                | some z =>
                  obtain ⟨y19, D20⟩ := z
                  rw [hk21] at h
                  dsimp only at h
                  refine ay_t_call (pc := 108) (w := some (.int y19)) fe_135_108 (ay_args [.ref 45, .int a1] [.int y16, .int y1, .ref 8] rfl rfl (Nat.le_of_ble_eq_true rfl) (Nat.le_of_ble_eq_true rfl)) (ay_rcvV at_45 rfl) (ev_132 hk21) ?_
                  cases hk24 : fn_41 y1 y16 y19 D20 with
                  | none => rw [hk24] at h; cases h
                  | some z =>
                    obtain ⟨y22, D23⟩ := z
                    rw [hk24] at h
                    dsimp only at h
                    refine ay_t_call (pc := 111) (w := some (.int y22)) fe_135_111 (ay_args [.ref 8, .int y1, .int y16, .int y19] [] rfl rfl (Nat.le_of_ble_eq_true rfl) (Nat.le_of_ble_eq_true rfl)) (ay_rcvV at_8 rfl) (ev_41 hk24) ?_
                    refine ay_t_stk (pc := 114) (S' := []) fe_135_114 rfl ?_
                    refine ay_t_br (pc := 115) (pc' := 154) fe_135_115 rfl ?_
                    refine ay_t_stk (pc := 154) (S' := [.int 1]) fe_135_154 rfl ?_
                    cases h
                    exact ay_t_iret fe_135_155 rfl rfl
            · rw [if_neg hc15] at h
              by_cases hc25 : y8 = 103
              · rw [if_pos hc25] at h
                refine ay_t_br (pc := 28) (pc' := 72) (S' := []) fe_135_28 (by rw [hc25]; rfl) ?_
                refine ay_t_loc (pc := 72) fe_135_72 rfl ?_
                refine ay_t_getR (pc := 73) (w := .ref 1) fe_135_73 at_0 (by decide +kernel) rfl ?_
                refine ay_t_getR (pc := 76) (w := .ref 8) fe_135_76 at_1 (by decide +kernel) rfl ?_
                refine ay_t_loc (pc := 79) fe_135_79 rfl ?_
                cases hk28 : fn_23 y1 D9 with
                | none => rw [hk28] at h; cases h
                | some z =>
                  obtain ⟨y26, D27⟩ := z
                  rw [hk28] at h
                  dsimp only at h
                  refine ay_t_call (pc := 80) (w := some (.int y26)) fe_135_80 (ay_args [.ref 8, .int y1] [] rfl rfl (Nat.le_of_ble_eq_true rfl) (Nat.le_of_ble_eq_true rfl)) (ay_rcvV at_8 rfl) (ev_23 hk28) ?_
                  refine ay_t_stk (pc := 83) (S' := []) fe_135_83 rfl ?_
                  refine ay_t_br (pc := 84) (pc' := 154) fe_135_84 rfl ?_
                  refine ay_t_stk (pc := 154) (S' := [.int 1]) fe_135_154 rfl ?_
                  cases h
                  exact ay_t_iret fe_135_155 rfl rfl
              · rw [if_neg hc25] at h
                by_cases hc29 : y8 = 116
                · rw [if_pos hc29] at h
                  refine ay_t_br (pc := 28) (pc' := 130) (S' := []) fe_135_28 (by rw [hc29]; rfl) ?_
                  refine ay_t_loc (pc := 130) fe_135_130 rfl ?_
                  refine ay_t_getR (pc := 131) (w := .ref 1) fe_135_131 at_0 (by decide +kernel) rfl ?_
                  refine ay_t_loc (pc := 134) fe_135_134 rfl ?_
                  cases hk32 : fn_80 y1 D9 with
                  | none => rw [hk32] at h; cases h
                  | some z =>
                    obtain ⟨y30, D31⟩ := z
                    rw [hk32] at h
                    dsimp only at h
                    refine ay_t_call (pc := 135) (w := some (.int y30)) fe_135_135 (ay_args [.ref 1, .int y1] [] rfl rfl (Nat.le_of_ble_eq_true rfl) (Nat.le_of_ble_eq_true rfl)) (ay_rcvV at_1 rfl) (ev_80 hk32) ?_
                    refine ay_t_stk (pc := 138) (S' := []) fe_135_138 rfl ?_
                    refine ay_t_br (pc := 139) (pc' := 154) fe_135_139 rfl ?_
                    refine ay_t_stk (pc := 154) (S' := [.int 1]) fe_135_154 rfl ?_
                    cases h
                    exact ay_t_iret fe_135_155 rfl rfl
                · rw [if_neg hc29] at h
                  refine ay_t_br (pc := 28) (pc' := 142) fe_135_28 (ay_look_def (x := y8) (by simp only [List.toList_toArray, Op.lookupswitch.offset_cons, Op.lookupswitch.offset_nil, if_neg (Ne.symm (ay_ne_toInt (c := 100) hc11 (by decide))), if_neg (Ne.symm (ay_ne_toInt (c := 101) hc15 (by decide))), if_neg (Ne.symm (ay_ne_toInt (c := 103) hc25 (by decide))), if_neg (Ne.symm (ay_ne_toInt (c := 116) hc29 (by decide)))]) rfl) ?_
                  refine ay_t_loc (pc := 142) fe_135_142 rfl ?_
                  refine ay_t_getR (pc := 143) (w := .ref 1) fe_135_143 at_0 (by decide +kernel) rfl ?_
                  refine ay_t_getR (pc := 146) (w := .ref 8) fe_135_146 at_1 (by decide +kernel) rfl ?_
                  refine ay_t_loc (pc := 149) fe_135_149 rfl ?_
                  cases hk35 : fn_56 y1 D9 with
                  | none => rw [hk35] at h; cases h
                  | some z =>
                    obtain ⟨y33, D34⟩ := z
                    rw [hk35] at h
                    dsimp only at h
                    refine ay_t_call (pc := 150) (w := some (.int y33)) fe_135_150 (ay_args [.ref 8, .int y1] [] rfl rfl (Nat.le_of_ble_eq_true rfl) (Nat.le_of_ble_eq_true rfl)) (ay_rcvV at_8 rfl) (ev_56 hk35) ?_
                    refine ay_t_stk (pc := 153) (S' := []) fe_135_153 rfl ?_
                    refine ay_t_stk (pc := 154) (S' := [.int 1]) fe_135_154 rfl ?_
                    cases h
                    exact ay_t_iret fe_135_155 rfl rfl
      · rw [if_neg hc7] at h
        refine ay_t_neg (pc := 15) hc7 fe_135_15 rfl ?_
        refine ay_t_stk (pc := 18) (S' := [.int 0]) fe_135_18 rfl ?_
        cases h
        exact ay_t_iret fe_135_19 rfl rfl
def fn_136_41 : Nat → Int32 → Int32 → am_DD → Option (Int32 × Nat × am_DD)
  | 0, _, _, _ => none
  | n + 1, x1, x2, D => (if x1 ≤ x2 then (match fn_101 D with | none => none | some (y12, D13) => some (x2, 0, D13)) else (match fn_135 x2 D with | none => none | some (y15, D16) => (if y15 = 0 then (match fn_101 D16 with | none => none | some (y19, D20) => some (x2, 0, D20)) else fn_136_41 n x1 (x2 + 1) D16)))
set_option maxHeartbeats 2000000 in
theorem ev_136_41 : ∀ (n : Nat) (x1 x2 : Int32) (D : am_DD) (y : Int32) (k : Nat) (Z : am_DD), fn_136_41 n x1 x2 D = some (y, k, Z) → ay_to 136 41 [some (.ref 0), some (.int x1), some (.int x2)] [] D (ay_oc y k) Z := by
  intro n
  induction n with
  | zero => intro x1 x2 D y k Z h; cases h
  | succ n ih =>
    intro x1 x2 D y k Z h
    rw [fn_136_41] at h
    refine ay_t_loc (pc := 41) fe_136_41 rfl ?_
    refine ay_t_loc (pc := 42) fe_136_42 rfl ?_
    by_cases hc11 : x1 ≤ x2
    · rw [if_pos hc11] at h
      refine ay_t_pos (pc := 43) hc11 fe_136_43 rfl ?_
      refine ay_t_loc (pc := 60) fe_136_60 rfl ?_
      refine ay_t_getR (pc := 61) (w := .ref 45) fe_136_61 at_0 (by decide +kernel) rfl ?_
      cases hk14 : fn_101 D with
      | none => rw [hk14] at h; cases h
      | some z =>
        obtain ⟨y12, D13⟩ := z
        rw [hk14] at h
        dsimp only at h
        refine ay_t_call (pc := 64) (w := some (.int y12)) fe_136_64 (ay_args [.ref 45] [] rfl rfl (Nat.le_of_ble_eq_true rfl) (Nat.le_of_ble_eq_true rfl)) (ay_rcvV at_45 rfl) (ev_101 hk14) ?_
        refine ay_t_stk (pc := 67) (S' := []) fe_136_67 rfl ?_
        refine ay_t_loc (pc := 68) fe_136_68 rfl ?_
        cases h
        exact ay_t_iret fe_136_69 rfl rfl
    · rw [if_neg hc11] at h
      refine ay_t_neg (pc := 43) hc11 fe_136_43 rfl ?_
      refine ay_t_loc (pc := 46) fe_136_46 rfl ?_
      refine ay_t_loc (pc := 47) fe_136_47 rfl ?_
      cases hk17 : fn_135 x2 D with
      | none => rw [hk17] at h; cases h
      | some z =>
        obtain ⟨y15, D16⟩ := z
        rw [hk17] at h
        dsimp only at h
        refine ay_t_call (pc := 48) (w := some (.int y15)) fe_136_48 (ay_args [.ref 0, .int x2] [] rfl rfl (Nat.le_of_ble_eq_true rfl) (Nat.le_of_ble_eq_true rfl)) (ay_rcvV at_0 rfl) (ev_135 hk17) ?_
        by_cases hc18 : y15 = 0
        · rw [if_pos hc18] at h
          refine ay_t_pos (pc := 51) hc18 fe_136_51 rfl ?_
          refine ay_t_loc (pc := 60) fe_136_60 rfl ?_
          refine ay_t_getR (pc := 61) (w := .ref 45) fe_136_61 at_0 (by decide +kernel) rfl ?_
          cases hk21 : fn_101 D16 with
          | none => rw [hk21] at h; cases h
          | some z =>
            obtain ⟨y19, D20⟩ := z
            rw [hk21] at h
            dsimp only at h
            refine ay_t_call (pc := 64) (w := some (.int y19)) fe_136_64 (ay_args [.ref 45] [] rfl rfl (Nat.le_of_ble_eq_true rfl) (Nat.le_of_ble_eq_true rfl)) (ay_rcvV at_45 rfl) (ev_101 hk21) ?_
            refine ay_t_stk (pc := 67) (S' := []) fe_136_67 rfl ?_
            refine ay_t_loc (pc := 68) fe_136_68 rfl ?_
            cases h
            exact ay_t_iret fe_136_69 rfl rfl
        · rw [if_neg hc18] at h
          refine ay_t_neg (pc := 51) hc18 fe_136_51 rfl ?_
          refine ay_t_loc (pc := 54) (L' := [some (.ref 0), some (.int x1), some (.int (x2 + 1))]) fe_136_54 rfl ?_
          refine ay_t_br (pc := 57) (pc' := 41) fe_136_57 rfl ?_
          exact ay_t_less (ay_ls (ay_ls (ay_ls ay_l0))) (ih _ _ _ _ _ _ h)
def fn_136 (D : am_DD) : Option (Int32 × Nat × am_DD) := (match fn_128 D with | none => none | some (y1, D2) => (if ¬ y1 = 0 then (match fn_22 D2 with | none => none | some (y5, D6) => (match fn_129 D6 with | none => none | some (y8, D9) => fn_136_41 am_F y8 0 D9)) else some (0, 1, D2)))
set_option maxHeartbeats 2000000 in
theorem ev_136 {D : am_DD} {y : Int32} {k : Nat} {Z : am_DD} (h : fn_136  D = some (y, k, Z)) : ay_mo 136 [.ref 0] D (ay_oc y k) Z := by
  unfold fn_136 at h
  refine ay_m_of (L := [some (.ref 0), none, none]) rfl ?_
  refine ay_t_loc (pc := 0) fe_136_0 rfl ?_
  refine ay_t_getR (pc := 1) (w := .ref 45) fe_136_1 at_0 (by decide +kernel) rfl ?_
  cases hk3 : fn_128 D with
  | none => rw [hk3] at h; cases h
  | some z =>
    obtain ⟨y1, D2⟩ := z
    rw [hk3] at h
    dsimp only at h
    refine ay_t_call (pc := 4) (w := some (.int y1)) fe_136_4 (ay_args [.ref 45] [] rfl rfl (Nat.le_of_ble_eq_true rfl) (Nat.le_of_ble_eq_true rfl)) (ay_rcvV at_45 rfl) (ev_128 hk3) ?_
    by_cases hc4 : ¬ y1 = 0
    · rw [if_pos hc4] at h
      refine ay_t_pos (pc := 7) hc4 fe_136_7 rfl ?_
      refine ay_t_loc (pc := 20) fe_136_20 rfl ?_
      refine ay_t_getR (pc := 21) (w := .ref 56) fe_136_21 at_0 (by decide +kernel) rfl ?_
      refine ay_t_loc (pc := 24) fe_136_24 rfl ?_
      refine ay_t_getR (pc := 25) (w := .ref 1) fe_136_25 at_0 (by decide +kernel) rfl ?_
      cases hk7 : fn_22 D2 with
      | none => rw [hk7] at h; cases h
      | some z =>
        obtain ⟨y5, D6⟩ := z
        rw [hk7] at h
        dsimp only at h
        refine ay_t_call (pc := 28) (w := none) fe_136_28 (ay_args [.ref 56, .ref 1] [] rfl rfl (Nat.le_of_ble_eq_true rfl) (Nat.le_of_ble_eq_true rfl)) (ay_rcvV at_56 rfl) (ev_22 hk7) ?_
        refine ay_t_loc (pc := 31) fe_136_31 rfl ?_
        refine ay_t_getR (pc := 32) (w := .ref 45) fe_136_32 at_0 (by decide +kernel) rfl ?_
        cases hk10 : fn_129 D6 with
        | none => rw [hk10] at h; cases h
        | some z =>
          obtain ⟨y8, D9⟩ := z
          rw [hk10] at h
          dsimp only at h
          refine ay_t_call (pc := 35) (w := some (.int y8)) fe_136_35 (ay_args [.ref 45] [] rfl rfl (Nat.le_of_ble_eq_true rfl) (Nat.le_of_ble_eq_true rfl)) (ay_rcvV at_45 rfl) (ev_129 hk10) ?_
          refine ay_t_loc (pc := 38) (L' := [some (.ref 0), some (.int y8), none]) fe_136_38 rfl ?_
          refine ay_t_stk (pc := 39) (S' := [.int 0]) fe_136_39 rfl ?_
          refine ay_t_loc (pc := 40) (L' := [some (.ref 0), some (.int y8), some (.int 0)]) fe_136_40 rfl ?_
          exact ay_t_less (ay_ls (ay_ls (ay_ls ay_l0))) (ev_136_41 _ _ _ _ _ _ _ h)
    · rw [if_neg hc4] at h
      refine ay_t_neg (pc := 7) hc4 fe_136_7 rfl ?_
      cases h
      exact ay_t_thr fe_136_10 (by decide)
def fn_138 (D : am_DD) : Option (Int32 × am_DD) := (match fn_126 0 D with | none => none | some (y1, D2) => (if y1 = 0 then (match fn_29 1 D2 with | none => none | some (y5, D6) => (if ¬ y5 = 0 then (match fn_31 D6 with | none => none | some (y9, D10) => (match fn_126 1 D10 with | none => none | some (y12, D13) => (if y12 = 0 then some (0, (am_upd D13 321 6 0)) else some (((am_upd D13 321 6 0) 321 12), (am_upd D13 321 6 0))))) else some (0, D6))) else (match fn_29 0 D2 with | none => none | some (y16, D17) => (if ¬ y16 = 0 then (match fn_31 D17 with | none => none | some (y20, D21) => (match fn_126 1 D21 with | none => none | some (y23, D24) => (if y23 = 0 then some (0, (am_upd D24 321 6 0)) else some (((am_upd D24 321 6 0) 321 12), (am_upd D24 321 6 0))))) else some (0, D17)))))
set_option maxHeartbeats 2000000 in
theorem ev_138 {D : am_DD} {y : Int32} {Z : am_DD} (h : fn_138  D = some (y, Z)) : ay_mo 138 [.ref 321] D (.inl (some (.int y))) Z := by
  unfold fn_138 at h
  refine ay_m_of (L := [some (.ref 321), none]) rfl ?_
  refine ay_t_loc (pc := 0) fe_138_0 rfl ?_
  refine ay_t_loc (pc := 1) fe_138_1 rfl ?_
  refine ay_t_stk (pc := 2) (S' := [.int 0, .ref 321, .ref 321]) fe_138_2 rfl ?_
  cases hk3 : fn_126 0 D with
  | none => rw [hk3] at h; cases h
  | some z =>
    obtain ⟨y1, D2⟩ := z
    rw [hk3] at h
    dsimp only at h
    refine ay_t_call (pc := 3) (w := some (.int y1)) fe_138_3 (ay_args [.ref 321, .int 0] [.ref 321] rfl rfl (Nat.le_of_ble_eq_true rfl) (Nat.le_of_ble_eq_true rfl)) (ay_rcvV at_321 rfl) (ev_126 hk3) ?_
    by_cases hc4 : y1 = 0
    · rw [if_pos hc4] at h
      refine ay_t_pos (pc := 6) hc4 fe_138_6 rfl ?_
      refine ay_t_stk (pc := 13) (S' := [.int 1, .ref 321]) fe_138_13 rfl ?_
      cases hk7 : fn_29 1 D2 with
      | none => rw [hk7] at h; cases h
      | some z =>
        obtain ⟨y5, D6⟩ := z
        rw [hk7] at h
        dsimp only at h
        refine ay_t_call (pc := 14) (w := some (.int y5)) fe_138_14 (ay_args [.ref 321, .int 1] [] rfl rfl (Nat.le_of_ble_eq_true rfl) (Nat.le_of_ble_eq_true rfl)) (ay_rcvV at_321 rfl) (ev_29 hk7) ?_
        by_cases hc8 : ¬ y5 = 0
        · rw [if_pos hc8] at h
          refine ay_t_pos (pc := 17) hc8 fe_138_17 rfl ?_
          refine ay_t_loc (pc := 22) fe_138_22 rfl ?_
          cases hk11 : fn_31 D6 with
          | none => rw [hk11] at h; cases h
          | some z =>
            obtain ⟨y9, D10⟩ := z
            rw [hk11] at h
            dsimp only at h
            refine ay_t_call (pc := 23) (w := none) fe_138_23 (ay_args [.ref 321] [] rfl rfl (Nat.le_of_ble_eq_true rfl) (Nat.le_of_ble_eq_true rfl)) (ay_rcvV at_321 rfl) (ev_31 hk11) ?_
            refine ay_t_loc (pc := 26) fe_138_26 rfl ?_
            refine ay_t_stk (pc := 27) (S' := [.int 1, .ref 321]) fe_138_27 rfl ?_
            cases hk14 : fn_126 1 D10 with
            | none => rw [hk14] at h; cases h
            | some z =>
              obtain ⟨y12, D13⟩ := z
              rw [hk14] at h
              dsimp only at h
              refine ay_t_call (pc := 28) (w := some (.int y12)) fe_138_28 (ay_args [.ref 321, .int 1] [] rfl rfl (Nat.le_of_ble_eq_true rfl) (Nat.le_of_ble_eq_true rfl)) (ay_rcvV at_321 rfl) (ev_126 hk14) ?_
              refine ay_t_loc (pc := 31) (L' := [some (.ref 321), some (.int y12)]) fe_138_31 rfl ?_
              refine ay_t_loc (pc := 32) fe_138_32 rfl ?_
              refine ay_t_stk (pc := 33) (S' := [.int 0, .ref 321]) fe_138_33 rfl ?_
              refine ay_t_put (pc := 34) fe_138_34 at_321 (by decide +kernel) rfl rfl ?_
              refine ay_t_loc (pc := 37) fe_138_37 rfl ?_
              by_cases hc15 : y12 = 0
              · rw [if_pos hc15] at h
                refine ay_t_pos (pc := 38) hc15 fe_138_38 rfl ?_
                refine ay_t_stk (pc := 48) (S' := [.int 0]) fe_138_48 rfl ?_
                cases h
                exact ay_t_iret fe_138_49 rfl rfl
              · rw [if_neg hc15] at h
                refine ay_t_neg (pc := 38) hc15 fe_138_38 rfl ?_
                refine ay_t_loc (pc := 41) fe_138_41 rfl ?_
                refine ay_t_getI (pc := 42) fe_138_42 at_321 (by decide +kernel) rfl ?_
                refine ay_t_br (pc := 45) (pc' := 49) fe_138_45 rfl ?_
                cases h
                exact ay_t_iret fe_138_49 rfl rfl
        · rw [if_neg hc8] at h
          refine ay_t_neg (pc := 17) hc8 fe_138_17 rfl ?_
          refine ay_t_stk (pc := 20) (S' := [.int 0]) fe_138_20 rfl ?_
          cases h
          exact ay_t_iret fe_138_21 rfl rfl
    · rw [if_neg hc4] at h
      refine ay_t_neg (pc := 6) hc4 fe_138_6 rfl ?_
      refine ay_t_stk (pc := 9) (S' := [.int 0, .ref 321]) fe_138_9 rfl ?_
      refine ay_t_br (pc := 10) (pc' := 14) fe_138_10 rfl ?_
      cases hk18 : fn_29 0 D2 with
      | none => rw [hk18] at h; cases h
      | some z =>
        obtain ⟨y16, D17⟩ := z
        rw [hk18] at h
        dsimp only at h
        refine ay_t_call (pc := 14) (w := some (.int y16)) fe_138_14 (ay_args [.ref 321, .int 0] [] rfl rfl (Nat.le_of_ble_eq_true rfl) (Nat.le_of_ble_eq_true rfl)) (ay_rcvV at_321 rfl) (ev_29 hk18) ?_
        by_cases hc19 : ¬ y16 = 0
        · rw [if_pos hc19] at h
          refine ay_t_pos (pc := 17) hc19 fe_138_17 rfl ?_
          refine ay_t_loc (pc := 22) fe_138_22 rfl ?_
          cases hk22 : fn_31 D17 with
          | none => rw [hk22] at h; cases h
          | some z =>
            obtain ⟨y20, D21⟩ := z
            rw [hk22] at h
            dsimp only at h
            refine ay_t_call (pc := 23) (w := none) fe_138_23 (ay_args [.ref 321] [] rfl rfl (Nat.le_of_ble_eq_true rfl) (Nat.le_of_ble_eq_true rfl)) (ay_rcvV at_321 rfl) (ev_31 hk22) ?_
            refine ay_t_loc (pc := 26) fe_138_26 rfl ?_
            refine ay_t_stk (pc := 27) (S' := [.int 1, .ref 321]) fe_138_27 rfl ?_
            cases hk25 : fn_126 1 D21 with
            | none => rw [hk25] at h; cases h
            | some z =>
              obtain ⟨y23, D24⟩ := z
              rw [hk25] at h
              dsimp only at h
              refine ay_t_call (pc := 28) (w := some (.int y23)) fe_138_28 (ay_args [.ref 321, .int 1] [] rfl rfl (Nat.le_of_ble_eq_true rfl) (Nat.le_of_ble_eq_true rfl)) (ay_rcvV at_321 rfl) (ev_126 hk25) ?_
              refine ay_t_loc (pc := 31) (L' := [some (.ref 321), some (.int y23)]) fe_138_31 rfl ?_
              refine ay_t_loc (pc := 32) fe_138_32 rfl ?_
              refine ay_t_stk (pc := 33) (S' := [.int 0, .ref 321]) fe_138_33 rfl ?_
              refine ay_t_put (pc := 34) fe_138_34 at_321 (by decide +kernel) rfl rfl ?_
              refine ay_t_loc (pc := 37) fe_138_37 rfl ?_
              by_cases hc26 : y23 = 0
              · rw [if_pos hc26] at h
                refine ay_t_pos (pc := 38) hc26 fe_138_38 rfl ?_
                refine ay_t_stk (pc := 48) (S' := [.int 0]) fe_138_48 rfl ?_
                cases h
                exact ay_t_iret fe_138_49 rfl rfl
              · rw [if_neg hc26] at h
                refine ay_t_neg (pc := 38) hc26 fe_138_38 rfl ?_
                refine ay_t_loc (pc := 41) fe_138_41 rfl ?_
                refine ay_t_getI (pc := 42) fe_138_42 at_321 (by decide +kernel) rfl ?_
                refine ay_t_br (pc := 45) (pc' := 49) fe_138_45 rfl ?_
                cases h
                exact ay_t_iret fe_138_49 rfl rfl
        · rw [if_neg hc19] at h
          refine ay_t_neg (pc := 17) hc19 fe_138_17 rfl ?_
          refine ay_t_stk (pc := 20) (S' := [.int 0]) fe_138_20 rfl ?_
          cases h
          exact ay_t_iret fe_138_21 rfl rfl
def fn_139 (D : am_DD) : Option (Int32 × am_DD) := some ((D 56 2), D)
set_option maxHeartbeats 2000000 in
theorem ev_139 {D : am_DD} {y : Int32} {Z : am_DD} (h : fn_139  D = some (y, Z)) : ay_mo 139 [.ref 56] D (.inl (some (.int y))) Z := by
  unfold fn_139 at h
  refine ay_m_of (L := [some (.ref 56)]) rfl ?_
  refine ay_t_loc (pc := 0) fe_139_0 rfl ?_
  refine ay_t_getI (pc := 1) fe_139_1 at_56 (by decide +kernel) rfl ?_
  cases h
  exact ay_t_iret fe_139_4 rfl rfl
def fn_141 (D : am_DD) : Option (Int32 × am_DD) := (if (D 56 2) ≤ 0 then some ((D 56 2), D) else (match fn_15 ((am_upd D 56 2 ((D 56 2) - 1)) 56 2) (am_upd D 56 2 ((D 56 2) - 1)) with | none => none | some (y2, D3) => (match sh_fetch_57 y2 D3 with | none => none | some D5 => some ((D5 56 2), D5))))
set_option maxHeartbeats 2000000 in
theorem ev_141 {D : am_DD} {y : Int32} {Z : am_DD} (h : fn_141  D = some (y, Z)) : ay_mo 141 [.ref 56, .ref 1] D (.inl (some (.int y))) Z := by
  unfold fn_141 at h
  refine ay_m_of (L := [some (.ref 56), some (.ref 1)]) rfl ?_
  refine ay_t_loc (pc := 0) fe_141_0 rfl ?_
  refine ay_t_getI (pc := 1) fe_141_1 at_56 (by decide +kernel) rfl ?_
  by_cases hc1 : (D 56 2) ≤ 0
  · rw [if_pos hc1] at h
    refine ay_t_pos (pc := 4) hc1 fe_141_4 rfl ?_
    refine ay_t_loc (pc := 33) fe_141_33 rfl ?_
    refine ay_t_getI (pc := 34) fe_141_34 at_56 (by decide +kernel) rfl ?_
    cases h
    exact ay_t_iret fe_141_37 rfl rfl
  · rw [if_neg hc1] at h
    refine ay_t_neg (pc := 4) hc1 fe_141_4 rfl ?_
    refine ay_t_loc (pc := 7) fe_141_7 rfl ?_
    refine ay_t_stk (pc := 8) (S' := [.ref 56, .ref 56]) fe_141_8 rfl ?_
    refine ay_t_getI (pc := 9) fe_141_9 at_56 (by decide +kernel) rfl ?_
    refine ay_t_stk (pc := 12) (S' := [.int 1, .int (D 56 2), .ref 56]) fe_141_12 rfl ?_
    refine ay_t_stk (pc := 13) (S' := [.int ((D 56 2) - 1), .ref 56]) fe_141_13 rfl ?_
    refine ay_t_put (pc := 14) fe_141_14 at_56 (by decide +kernel) rfl rfl ?_
    refine ay_t_loc (pc := 17) fe_141_17 rfl ?_
    refine ay_t_getR (pc := 18) (w := .ref 57) fe_141_18 at_56 (by decide +kernel) rfl ?_
    refine ay_t_loc (pc := 21) fe_141_21 rfl ?_
    refine ay_t_loc (pc := 22) fe_141_22 rfl ?_
    refine ay_t_getI (pc := 23) fe_141_23 at_56 (by decide +kernel) rfl ?_
    cases hk4 : fn_15 ((am_upd D 56 2 ((D 56 2) - 1)) 56 2) (am_upd D 56 2 ((D 56 2) - 1)) with
    | none => rw [hk4] at h; cases h
    | some z =>
      obtain ⟨y2, D3⟩ := z
      rw [hk4] at h
      dsimp only at h
      refine ay_t_call (pc := 26) (w := some (.int y2)) fe_141_26 (ay_args [.ref 56, .int ((am_upd D 56 2 ((D 56 2) - 1)) 56 2)] [.ref 57] rfl rfl (Nat.le_of_ble_eq_true rfl) (Nat.le_of_ble_eq_true rfl)) (ay_rcvV at_56 rfl) (ev_15 hk4) ?_
      refine ay_t_loc (pc := 29) fe_141_29 rfl ?_
      cases hk6 : sh_fetch_57 y2 D3 with
      | none => rw [hk6] at h; cases h
      | some D5 =>
        rw [hk6] at h
        dsimp only at h
        refine ay_t_call (pc := 30) (w := none) fe_141_30 (ay_args [.ref 57, .int y2, .ref 1] [] rfl rfl (Nat.le_of_ble_eq_true rfl) (Nat.le_of_ble_eq_true rfl)) (ay_rcvV at_57 rfl) (mt_sh_fetch_57 hk6) ?_
        refine ay_t_loc (pc := 33) fe_141_33 rfl ?_
        refine ay_t_getI (pc := 34) fe_141_34 at_56 (by decide +kernel) rfl ?_
        cases h
        exact ay_t_iret fe_141_37 rfl rfl
def fn_142 (D : am_DD) : Option (Int32 × Nat × am_DD) := (match fn_139 D with | none => none | some (y1, D2) => (if ¬ y1 = 0 then (match fn_141 D2 with | none => none | some (y5, D6) => some (y5, 0, D6)) else some (0, 2, D2)))
set_option maxHeartbeats 2000000 in
theorem ev_142 {D : am_DD} {y : Int32} {k : Nat} {Z : am_DD} (h : fn_142  D = some (y, k, Z)) : ay_mo 142 [.ref 0] D (ay_oc y k) Z := by
  unfold fn_142 at h
  refine ay_m_of (L := [some (.ref 0)]) rfl ?_
  refine ay_t_loc (pc := 0) fe_142_0 rfl ?_
  refine ay_t_getR (pc := 1) (w := .ref 56) fe_142_1 at_0 (by decide +kernel) rfl ?_
  cases hk3 : fn_139 D with
  | none => rw [hk3] at h; cases h
  | some z =>
    obtain ⟨y1, D2⟩ := z
    rw [hk3] at h
    dsimp only at h
    refine ay_t_call (pc := 4) (w := some (.int y1)) fe_142_4 (ay_args [.ref 56] [] rfl rfl (Nat.le_of_ble_eq_true rfl) (Nat.le_of_ble_eq_true rfl)) (ay_rcvV at_56 rfl) (ev_139 hk3) ?_
    by_cases hc4 : ¬ y1 = 0
    · rw [if_pos hc4] at h
      refine ay_t_pos (pc := 7) hc4 fe_142_7 rfl ?_
      refine ay_t_loc (pc := 20) fe_142_20 rfl ?_
      refine ay_t_getR (pc := 21) (w := .ref 56) fe_142_21 at_0 (by decide +kernel) rfl ?_
      refine ay_t_loc (pc := 24) fe_142_24 rfl ?_
      refine ay_t_getR (pc := 25) (w := .ref 1) fe_142_25 at_0 (by decide +kernel) rfl ?_
      cases hk7 : fn_141 D2 with
      | none => rw [hk7] at h; cases h
      | some z =>
        obtain ⟨y5, D6⟩ := z
        rw [hk7] at h
        dsimp only at h
        refine ay_t_call (pc := 28) (w := some (.int y5)) fe_142_28 (ay_args [.ref 56, .ref 1] [] rfl rfl (Nat.le_of_ble_eq_true rfl) (Nat.le_of_ble_eq_true rfl)) (ay_rcvV at_56 rfl) (ev_141 hk7) ?_
        cases h
        exact ay_t_iret fe_142_31 rfl rfl
    · rw [if_neg hc4] at h
      refine ay_t_neg (pc := 7) hc4 fe_142_7 rfl ?_
      cases h
      exact ay_t_thr fe_142_10 (by decide)
def fn_144 (D : am_DD) : Option (Int32 × am_DD) := (if (D 321 2) ≤ 0 then (match fn_29 1 D with | none => none | some (y2, D3) => (if ¬ y2 = 0 then (match fn_30 323 2430 322 405 (405 * ((am_upd D3 321 2 ((D3 321 2) - 1)) 321 2)) 0 (am_upd D3 321 2 ((D3 321 2) - 1)) with | none => none | some (y6, D7) => some ((D7 321 2), D7)) else some (0, D3))) else (match fn_29 0 D with | none => none | some (y9, D10) => (if ¬ y9 = 0 then (match fn_30 323 2430 322 405 (405 * ((am_upd D10 321 2 ((D10 321 2) - 1)) 321 2)) 0 (am_upd D10 321 2 ((D10 321 2) - 1)) with | none => none | some (y13, D14) => some ((D14 321 2), D14)) else some (0, D10))))
set_option maxHeartbeats 2000000 in
theorem ev_144 {D : am_DD} {y : Int32} {Z : am_DD} (h : fn_144  D = some (y, Z)) : ay_mo 144 [.ref 321] D (.inl (some (.int y))) Z := by
  unfold fn_144 at h
  refine ay_m_of (L := [some (.ref 321)]) rfl ?_
  refine ay_t_loc (pc := 0) fe_144_0 rfl ?_
  refine ay_t_loc (pc := 1) fe_144_1 rfl ?_
  refine ay_t_getI (pc := 2) fe_144_2 at_321 (by decide +kernel) rfl ?_
  by_cases hc1 : (D 321 2) ≤ 0
  · rw [if_pos hc1] at h
    refine ay_t_pos (pc := 5) hc1 fe_144_5 rfl ?_
    refine ay_t_stk (pc := 12) (S' := [.int 1, .ref 321]) fe_144_12 rfl ?_
    cases hk4 : fn_29 1 D with
    | none => rw [hk4] at h; cases h
    | some z =>
      obtain ⟨y2, D3⟩ := z
      rw [hk4] at h
      dsimp only at h
      refine ay_t_call (pc := 13) (w := some (.int y2)) fe_144_13 (ay_args [.ref 321, .int 1] [] rfl rfl (Nat.le_of_ble_eq_true rfl) (Nat.le_of_ble_eq_true rfl)) (ay_rcvV at_321 rfl) (ev_29 hk4) ?_
      by_cases hc5 : ¬ y2 = 0
      · rw [if_pos hc5] at h
        refine ay_t_pos (pc := 16) hc5 fe_144_16 rfl ?_
        refine ay_t_loc (pc := 21) fe_144_21 rfl ?_
        refine ay_t_stk (pc := 22) (S' := [.ref 321, .ref 321]) fe_144_22 rfl ?_
        refine ay_t_getI (pc := 23) fe_144_23 at_321 (by decide +kernel) rfl ?_
        refine ay_t_stk (pc := 26) (S' := [.int 1, .int (D3 321 2), .ref 321]) fe_144_26 rfl ?_
        refine ay_t_stk (pc := 27) (S' := [.int ((D3 321 2) - 1), .ref 321]) fe_144_27 rfl ?_
        refine ay_t_put (pc := 28) fe_144_28 at_321 (by decide +kernel) rfl rfl ?_
        refine ay_t_loc (pc := 31) fe_144_31 rfl ?_
        refine ay_t_getR (pc := 32) (w := .ref 323) fe_144_32 at_321 (by decide +kernel) rfl ?_
        refine ay_t_stk (pc := 35) (S' := [.int 405, .ref 323]) fe_144_35 rfl ?_
        refine ay_t_loc (pc := 38) fe_144_38 rfl ?_
        refine ay_t_getI (pc := 39) fe_144_39 at_321 (by decide +kernel) rfl ?_
        refine ay_t_stk (pc := 42) (S' := [.int (405 * ((am_upd D3 321 2 ((D3 321 2) - 1)) 321 2)), .ref 323]) fe_144_42 rfl ?_
        refine ay_t_loc (pc := 43) fe_144_43 rfl ?_
        refine ay_t_getR (pc := 44) (w := .ref 322) fe_144_44 at_321 (by decide +kernel) rfl ?_
        refine ay_t_stk (pc := 47) (S' := [.int 0, .ref 322, .int (405 * ((am_upd D3 321 2 ((D3 321 2) - 1)) 321 2)), .ref 323]) fe_144_47 rfl ?_
        cases hk8 : fn_30 323 2430 322 405 (405 * ((am_upd D3 321 2 ((D3 321 2) - 1)) 321 2)) 0 (am_upd D3 321 2 ((D3 321 2) - 1)) with
        | none => rw [hk8] at h; cases h
        | some z =>
          obtain ⟨y6, D7⟩ := z
          rw [hk8] at h
          dsimp only at h
          refine ay_t_call (pc := 48) (w := none) fe_144_48 (ay_args [.ref 323, .int (405 * ((am_upd D3 321 2 ((D3 321 2) - 1)) 321 2)), .ref 322, .int 0] [] rfl rfl (Nat.le_of_ble_eq_true rfl) (Nat.le_of_ble_eq_true rfl)) rfl (ev_30 at_323 at_322 (by decide) hk8) ?_
          refine ay_t_loc (pc := 51) fe_144_51 rfl ?_
          refine ay_t_getI (pc := 52) fe_144_52 at_321 (by decide +kernel) rfl ?_
          cases h
          exact ay_t_iret fe_144_55 rfl rfl
      · rw [if_neg hc5] at h
        refine ay_t_neg (pc := 16) hc5 fe_144_16 rfl ?_
        refine ay_t_stk (pc := 19) (S' := [.int 0]) fe_144_19 rfl ?_
        cases h
        exact ay_t_iret fe_144_20 rfl rfl
  · rw [if_neg hc1] at h
    refine ay_t_neg (pc := 5) hc1 fe_144_5 rfl ?_
    refine ay_t_stk (pc := 8) (S' := [.int 0, .ref 321]) fe_144_8 rfl ?_
    refine ay_t_br (pc := 9) (pc' := 13) fe_144_9 rfl ?_
    cases hk11 : fn_29 0 D with
    | none => rw [hk11] at h; cases h
    | some z =>
      obtain ⟨y9, D10⟩ := z
      rw [hk11] at h
      dsimp only at h
      refine ay_t_call (pc := 13) (w := some (.int y9)) fe_144_13 (ay_args [.ref 321, .int 0] [] rfl rfl (Nat.le_of_ble_eq_true rfl) (Nat.le_of_ble_eq_true rfl)) (ay_rcvV at_321 rfl) (ev_29 hk11) ?_
      by_cases hc12 : ¬ y9 = 0
      · rw [if_pos hc12] at h
        refine ay_t_pos (pc := 16) hc12 fe_144_16 rfl ?_
        refine ay_t_loc (pc := 21) fe_144_21 rfl ?_
        refine ay_t_stk (pc := 22) (S' := [.ref 321, .ref 321]) fe_144_22 rfl ?_
        refine ay_t_getI (pc := 23) fe_144_23 at_321 (by decide +kernel) rfl ?_
        refine ay_t_stk (pc := 26) (S' := [.int 1, .int (D10 321 2), .ref 321]) fe_144_26 rfl ?_
        refine ay_t_stk (pc := 27) (S' := [.int ((D10 321 2) - 1), .ref 321]) fe_144_27 rfl ?_
        refine ay_t_put (pc := 28) fe_144_28 at_321 (by decide +kernel) rfl rfl ?_
        refine ay_t_loc (pc := 31) fe_144_31 rfl ?_
        refine ay_t_getR (pc := 32) (w := .ref 323) fe_144_32 at_321 (by decide +kernel) rfl ?_
        refine ay_t_stk (pc := 35) (S' := [.int 405, .ref 323]) fe_144_35 rfl ?_
        refine ay_t_loc (pc := 38) fe_144_38 rfl ?_
        refine ay_t_getI (pc := 39) fe_144_39 at_321 (by decide +kernel) rfl ?_
        refine ay_t_stk (pc := 42) (S' := [.int (405 * ((am_upd D10 321 2 ((D10 321 2) - 1)) 321 2)), .ref 323]) fe_144_42 rfl ?_
        refine ay_t_loc (pc := 43) fe_144_43 rfl ?_
        refine ay_t_getR (pc := 44) (w := .ref 322) fe_144_44 at_321 (by decide +kernel) rfl ?_
        refine ay_t_stk (pc := 47) (S' := [.int 0, .ref 322, .int (405 * ((am_upd D10 321 2 ((D10 321 2) - 1)) 321 2)), .ref 323]) fe_144_47 rfl ?_
        cases hk15 : fn_30 323 2430 322 405 (405 * ((am_upd D10 321 2 ((D10 321 2) - 1)) 321 2)) 0 (am_upd D10 321 2 ((D10 321 2) - 1)) with
        | none => rw [hk15] at h; cases h
        | some z =>
          obtain ⟨y13, D14⟩ := z
          rw [hk15] at h
          dsimp only at h
          refine ay_t_call (pc := 48) (w := none) fe_144_48 (ay_args [.ref 323, .int (405 * ((am_upd D10 321 2 ((D10 321 2) - 1)) 321 2)), .ref 322, .int 0] [] rfl rfl (Nat.le_of_ble_eq_true rfl) (Nat.le_of_ble_eq_true rfl)) rfl (ev_30 at_323 at_322 (by decide) hk15) ?_
          refine ay_t_loc (pc := 51) fe_144_51 rfl ?_
          refine ay_t_getI (pc := 52) fe_144_52 at_321 (by decide +kernel) rfl ?_
          cases h
          exact ay_t_iret fe_144_55 rfl rfl
      · rw [if_neg hc12] at h
        refine ay_t_neg (pc := 16) hc12 fe_144_16 rfl ?_
        refine ay_t_stk (pc := 19) (S' := [.int 0]) fe_144_19 rfl ?_
        cases h
        exact ay_t_iret fe_144_20 rfl rfl
def fn_145 (a1 : Int32) (D : am_DD) : Option (Int32 × am_DD) := (if a1 < 0 then some (0, D) else (if 2 ≤ a1 then some (0, D) else some (1, D)))
set_option maxHeartbeats 2000000 in
theorem ev_145 {a1 : Int32} {D : am_DD} {y : Int32} {Z : am_DD} (h : fn_145 a1 D = some (y, Z)) : ay_mo 145 [.int a1] D (.inl (some (.int y))) Z := by
  unfold fn_145 at h
  refine ay_m_of (L := [some (.int a1)]) rfl ?_
  refine ay_t_loc (pc := 0) fe_145_0 rfl ?_
  by_cases hc1 : a1 < 0
  · rw [if_pos hc1] at h
    refine ay_t_pos (pc := 1) hc1 fe_145_1 rfl ?_
    refine ay_t_stk (pc := 13) (S' := [.int 0]) fe_145_13 rfl ?_
    cases h
    exact ay_t_iret fe_145_14 rfl rfl
  · rw [if_neg hc1] at h
    refine ay_t_neg (pc := 1) hc1 fe_145_1 rfl ?_
    refine ay_t_loc (pc := 4) fe_145_4 rfl ?_
    refine ay_t_stk (pc := 5) (S' := [.int 2, .int a1]) fe_145_5 rfl ?_
    by_cases hc2 : 2 ≤ a1
    · rw [if_pos hc2] at h
      refine ay_t_pos (pc := 6) hc2 fe_145_6 rfl ?_
      refine ay_t_stk (pc := 13) (S' := [.int 0]) fe_145_13 rfl ?_
      cases h
      exact ay_t_iret fe_145_14 rfl rfl
    · rw [if_neg hc2] at h
      refine ay_t_neg (pc := 6) hc2 fe_145_6 rfl ?_
      refine ay_t_stk (pc := 9) (S' := [.int 1]) fe_145_9 rfl ?_
      refine ay_t_br (pc := 10) (pc' := 14) fe_145_10 rfl ?_
      cases h
      exact ay_t_iret fe_145_14 rfl rfl
def fn_146 (a1 : Int32) (D : am_DD) : Option (Int32 × Nat × am_DD) := (match fn_145 a1 D with | none => none | some (y1, D2) => (if ¬ y1 = 0 then (match sh_store_253 a1 D2 with | none => none | some D5 => some ((D5 1 0), 0, D5)) else some (0, 1, D2)))
set_option maxHeartbeats 2000000 in
theorem ev_146 {a1 : Int32} {D : am_DD} {y : Int32} {k : Nat} {Z : am_DD} (h : fn_146 a1 D = some (y, k, Z)) : ay_mo 146 [.ref 0, .int a1] D (ay_oc y k) Z := by
  unfold fn_146 at h
  refine ay_m_of (L := [some (.ref 0), some (.int a1)]) rfl ?_
  refine ay_t_loc (pc := 0) fe_146_0 rfl ?_
  cases hk3 : fn_145 a1 D with
  | none => rw [hk3] at h; cases h
  | some z =>
    obtain ⟨y1, D2⟩ := z
    rw [hk3] at h
    dsimp only at h
    refine ay_t_call (pc := 1) (w := some (.int y1)) fe_146_1 (ay_args [.int a1] [] rfl rfl (Nat.le_of_ble_eq_true rfl) (Nat.le_of_ble_eq_true rfl)) rfl (ev_145 hk3) ?_
    by_cases hc4 : ¬ y1 = 0
    · rw [if_pos hc4] at h
      refine ay_t_pos (pc := 4) hc4 fe_146_4 rfl ?_
      refine ay_t_loc (pc := 17) fe_146_17 rfl ?_
      refine ay_t_getR (pc := 18) (w := .ref 253) fe_146_18 at_0 (by decide +kernel) rfl ?_
      refine ay_t_loc (pc := 21) fe_146_21 rfl ?_
      refine ay_t_loc (pc := 22) fe_146_22 rfl ?_
      refine ay_t_getR (pc := 23) (w := .ref 1) fe_146_23 at_0 (by decide +kernel) rfl ?_
      cases hk6 : sh_store_253 a1 D2 with
      | none => rw [hk6] at h; cases h
      | some D5 =>
        rw [hk6] at h
        dsimp only at h
        refine ay_t_call (pc := 26) (w := none) fe_146_26 (ay_args [.ref 253, .int a1, .ref 1] [] rfl rfl (Nat.le_of_ble_eq_true rfl) (Nat.le_of_ble_eq_true rfl)) (ay_rcvV at_253 rfl) (mt_sh_store_253 hk6) ?_
        refine ay_t_loc (pc := 29) fe_146_29 rfl ?_
        refine ay_t_getR (pc := 30) (w := .ref 1) fe_146_30 at_0 (by decide +kernel) rfl ?_
        refine ay_t_getI (pc := 33) fe_146_33 at_1 (by decide +kernel) rfl ?_
        cases h
        exact ay_t_iret fe_146_36 rfl rfl
    · rw [if_neg hc4] at h
      refine ay_t_neg (pc := 4) hc4 fe_146_4 rfl ?_
      cases h
      exact ay_t_thr fe_146_7 (by decide)
def fn_148 (a1 : Int32) (D : am_DD) : Option (Int32 × am_DD) := (match fn_26 a1 0 1 D with | none => none | some (y1, D2) => (if ay_isb y1 then some (y1, D2) else none))
set_option maxHeartbeats 2000000 in
theorem ev_148 {a1 : Int32} {D : am_DD} {y : Int32} {Z : am_DD} (h : fn_148 a1 D = some (y, Z)) : ay_mo 148 [.int a1] D (.inl (some (.int y))) Z := by
  unfold fn_148 at h
  refine ay_m_of (L := [some (.int a1)]) rfl ?_
  refine ay_t_loc (pc := 0) fe_148_0 rfl ?_
  refine ay_t_stk (pc := 1) (S' := [.int 0, .int a1]) fe_148_1 rfl ?_
  refine ay_t_stk (pc := 2) (S' := [.int 1, .int 0, .int a1]) fe_148_2 rfl ?_
  cases hk3 : fn_26 a1 0 1 D with
  | none => rw [hk3] at h; cases h
  | some z =>
    obtain ⟨y1, D2⟩ := z
    rw [hk3] at h
    dsimp only at h
    refine ay_t_call (pc := 3) (w := some (.int y1)) fe_148_3 (ay_args [.int a1, .int 0, .int 1] [] rfl rfl (Nat.le_of_ble_eq_true rfl) (Nat.le_of_ble_eq_true rfl)) rfl (ev_26 hk3) ?_
    by_cases hn4 : ay_isb y1
    · rw [if_pos hn4] at h
      cases h
      exact ay_t_zret fe_148_6 rfl hn4
    · rw [if_neg hn4] at h; cases h
def fn_149 (a1 : Int32) (D : am_DD) : Option (Int32 × am_DD) := (match fn_148 a1 D with | none => none | some (y1, D2) => (if y1 = 0 then (match fn_29 1 D2 with | none => none | some (y5, D6) => (if ¬ y5 = 0 then (match fn_30 322 405 324 810 0 (405 * a1) D6 with | none => none | some (y9, D10) => (if a1 < 0 ∨ 2 ≤ a1.toNatClampNeg then none else some (((am_upd D10 325 a1.toNatClampNeg (vp_nar .boolean 1)) 322 0), (am_upd D10 325 a1.toNatClampNeg (vp_nar .boolean 1))))) else some (0, D6))) else (match fn_29 0 D2 with | none => none | some (y13, D14) => (if ¬ y13 = 0 then (match fn_30 322 405 324 810 0 (405 * a1) D14 with | none => none | some (y17, D18) => (if a1 < 0 ∨ 2 ≤ a1.toNatClampNeg then none else some (((am_upd D18 325 a1.toNatClampNeg (vp_nar .boolean 1)) 322 0), (am_upd D18 325 a1.toNatClampNeg (vp_nar .boolean 1))))) else some (0, D14)))))
set_option maxHeartbeats 2000000 in
theorem ev_149 {a1 : Int32} {D : am_DD} {y : Int32} {Z : am_DD} (h : fn_149 a1 D = some (y, Z)) : ay_mo 149 [.ref 321, .int a1] D (.inl (some (.int y))) Z := by
  unfold fn_149 at h
  refine ay_m_of (L := [some (.ref 321), some (.int a1)]) rfl ?_
  refine ay_t_loc (pc := 0) fe_149_0 rfl ?_
  refine ay_t_loc (pc := 1) fe_149_1 rfl ?_
  cases hk3 : fn_148 a1 D with
  | none => rw [hk3] at h; cases h
  | some z =>
    obtain ⟨y1, D2⟩ := z
    rw [hk3] at h
    dsimp only at h
    refine ay_t_call (pc := 2) (w := some (.int y1)) fe_149_2 (ay_args [.int a1] [.ref 321] rfl rfl (Nat.le_of_ble_eq_true rfl) (Nat.le_of_ble_eq_true rfl)) rfl (ev_148 hk3) ?_
    by_cases hc4 : y1 = 0
    · rw [if_pos hc4] at h
      refine ay_t_pos (pc := 5) hc4 fe_149_5 rfl ?_
      refine ay_t_stk (pc := 12) (S' := [.int 1, .ref 321]) fe_149_12 rfl ?_
      cases hk7 : fn_29 1 D2 with
      | none => rw [hk7] at h; cases h
      | some z =>
        obtain ⟨y5, D6⟩ := z
        rw [hk7] at h
        dsimp only at h
        refine ay_t_call (pc := 13) (w := some (.int y5)) fe_149_13 (ay_args [.ref 321, .int 1] [] rfl rfl (Nat.le_of_ble_eq_true rfl) (Nat.le_of_ble_eq_true rfl)) (ay_rcvV at_321 rfl) (ev_29 hk7) ?_
        by_cases hc8 : ¬ y5 = 0
        · rw [if_pos hc8] at h
          refine ay_t_pos (pc := 16) hc8 fe_149_16 rfl ?_
          refine ay_t_loc (pc := 21) fe_149_21 rfl ?_
          refine ay_t_getR (pc := 22) (w := .ref 322) fe_149_22 at_321 (by decide +kernel) rfl ?_
          refine ay_t_stk (pc := 25) (S' := [.int 0, .ref 322]) fe_149_25 rfl ?_
          refine ay_t_loc (pc := 26) fe_149_26 rfl ?_
          refine ay_t_getR (pc := 27) (w := .ref 324) fe_149_27 at_321 (by decide +kernel) rfl ?_
          refine ay_t_stk (pc := 30) (S' := [.int 405, .ref 324, .int 0, .ref 322]) fe_149_30 rfl ?_
          refine ay_t_loc (pc := 33) fe_149_33 rfl ?_
          refine ay_t_stk (pc := 34) (S' := [.int (405 * a1), .ref 324, .int 0, .ref 322]) fe_149_34 rfl ?_
          cases hk11 : fn_30 322 405 324 810 0 (405 * a1) D6 with
          | none => rw [hk11] at h; cases h
          | some z =>
            obtain ⟨y9, D10⟩ := z
            rw [hk11] at h
            dsimp only at h
            refine ay_t_call (pc := 35) (w := none) fe_149_35 (ay_args [.ref 322, .int 0, .ref 324, .int (405 * a1)] [] rfl rfl (Nat.le_of_ble_eq_true rfl) (Nat.le_of_ble_eq_true rfl)) rfl (ev_30 at_322 at_324 (by decide) hk11) ?_
            refine ay_t_loc (pc := 38) fe_149_38 rfl ?_
            refine ay_t_getR (pc := 39) (w := .ref 325) fe_149_39 at_321 (by decide +kernel) rfl ?_
            refine ay_t_loc (pc := 42) fe_149_42 rfl ?_
            refine ay_t_stk (pc := 43) (S' := [.int 1, .int a1, .ref 325]) fe_149_43 rfl ?_
            by_cases hb12 : a1 < 0 ∨ 2 ≤ a1.toNatClampNeg
            · rw [if_pos hb12] at h; cases h
            rw [if_neg hb12] at h
            refine ay_t_bastore (pc := 44) fe_149_44 at_325 hb12 ?_
            refine ay_t_loc (pc := 45) fe_149_45 rfl ?_
            refine ay_t_getR (pc := 46) (w := .ref 322) fe_149_46 at_321 (by decide +kernel) rfl ?_
            refine ay_t_stk (pc := 49) (S' := [.int 0, .ref 322]) fe_149_49 rfl ?_
            refine ay_t_ialoadk (pc := 50) (k := 0) fe_149_50 at_322 (by decide) (by decide) (by decide) ?_
            cases h
            exact ay_t_iret fe_149_51 rfl rfl
        · rw [if_neg hc8] at h
          refine ay_t_neg (pc := 16) hc8 fe_149_16 rfl ?_
          refine ay_t_stk (pc := 19) (S' := [.int 0]) fe_149_19 rfl ?_
          cases h
          exact ay_t_iret fe_149_20 rfl rfl
    · rw [if_neg hc4] at h
      refine ay_t_neg (pc := 5) hc4 fe_149_5 rfl ?_
      refine ay_t_stk (pc := 8) (S' := [.int 0, .ref 321]) fe_149_8 rfl ?_
      refine ay_t_br (pc := 9) (pc' := 13) fe_149_9 rfl ?_
      cases hk15 : fn_29 0 D2 with
      | none => rw [hk15] at h; cases h
      | some z =>
        obtain ⟨y13, D14⟩ := z
        rw [hk15] at h
        dsimp only at h
        refine ay_t_call (pc := 13) (w := some (.int y13)) fe_149_13 (ay_args [.ref 321, .int 0] [] rfl rfl (Nat.le_of_ble_eq_true rfl) (Nat.le_of_ble_eq_true rfl)) (ay_rcvV at_321 rfl) (ev_29 hk15) ?_
        by_cases hc16 : ¬ y13 = 0
        · rw [if_pos hc16] at h
          refine ay_t_pos (pc := 16) hc16 fe_149_16 rfl ?_
          refine ay_t_loc (pc := 21) fe_149_21 rfl ?_
          refine ay_t_getR (pc := 22) (w := .ref 322) fe_149_22 at_321 (by decide +kernel) rfl ?_
          refine ay_t_stk (pc := 25) (S' := [.int 0, .ref 322]) fe_149_25 rfl ?_
          refine ay_t_loc (pc := 26) fe_149_26 rfl ?_
          refine ay_t_getR (pc := 27) (w := .ref 324) fe_149_27 at_321 (by decide +kernel) rfl ?_
          refine ay_t_stk (pc := 30) (S' := [.int 405, .ref 324, .int 0, .ref 322]) fe_149_30 rfl ?_
          refine ay_t_loc (pc := 33) fe_149_33 rfl ?_
          refine ay_t_stk (pc := 34) (S' := [.int (405 * a1), .ref 324, .int 0, .ref 322]) fe_149_34 rfl ?_
          cases hk19 : fn_30 322 405 324 810 0 (405 * a1) D14 with
          | none => rw [hk19] at h; cases h
          | some z =>
            obtain ⟨y17, D18⟩ := z
            rw [hk19] at h
            dsimp only at h
            refine ay_t_call (pc := 35) (w := none) fe_149_35 (ay_args [.ref 322, .int 0, .ref 324, .int (405 * a1)] [] rfl rfl (Nat.le_of_ble_eq_true rfl) (Nat.le_of_ble_eq_true rfl)) rfl (ev_30 at_322 at_324 (by decide) hk19) ?_
            refine ay_t_loc (pc := 38) fe_149_38 rfl ?_
            refine ay_t_getR (pc := 39) (w := .ref 325) fe_149_39 at_321 (by decide +kernel) rfl ?_
            refine ay_t_loc (pc := 42) fe_149_42 rfl ?_
            refine ay_t_stk (pc := 43) (S' := [.int 1, .int a1, .ref 325]) fe_149_43 rfl ?_
            by_cases hb20 : a1 < 0 ∨ 2 ≤ a1.toNatClampNeg
            · rw [if_pos hb20] at h; cases h
            rw [if_neg hb20] at h
            refine ay_t_bastore (pc := 44) fe_149_44 at_325 hb20 ?_
            refine ay_t_loc (pc := 45) fe_149_45 rfl ?_
            refine ay_t_getR (pc := 46) (w := .ref 322) fe_149_46 at_321 (by decide +kernel) rfl ?_
            refine ay_t_stk (pc := 49) (S' := [.int 0, .ref 322]) fe_149_49 rfl ?_
            refine ay_t_ialoadk (pc := 50) (k := 0) fe_149_50 at_322 (by decide) (by decide) (by decide) ?_
            cases h
            exact ay_t_iret fe_149_51 rfl rfl
        · rw [if_neg hc16] at h
          refine ay_t_neg (pc := 16) hc16 fe_149_16 rfl ?_
          refine ay_t_stk (pc := 19) (S' := [.int 0]) fe_149_19 rfl ?_
          cases h
          exact ay_t_iret fe_149_20 rfl rfl
def fn_150_253 (a1 : Int32) (D : am_DD) : Option (Int32 × am_DD) := (if ¬ (rw_at (D 320) 2 a1) = 1 then some (0, D) else some (1, D))
set_option maxHeartbeats 2000000 in
theorem ev_150_253 {a1 : Int32} {D : am_DD} {y : Int32} {Z : am_DD} (h : fn_150_253 a1 D = some (y, Z)) : ay_mo 150 [.ref 253, .int a1] D (.inl (some (.int y))) Z := by
  unfold fn_150_253 at h
  refine ay_m_of (L := [some (.ref 253), some (.int a1)]) rfl ?_
  refine ay_t_loc (pc := 0) fe_150_0 rfl ?_
  refine ay_t_getR (pc := 1) (w := .ref 319) fe_150_1 at_253 (by decide +kernel) rfl ?_
  refine ay_t_loc (pc := 4) fe_150_4 rfl ?_
  refine ay_t_call (pc := 5) (w := some (.int (rw_at (D 320) 2 a1))) fe_150_5 (ay_args [.ref 319, .int a1] [] rfl rfl (Nat.le_of_ble_eq_true rfl) (Nat.le_of_ble_eq_true rfl)) (ay_rcvV at_319 rfl) (mt_at at_319 at_320 (by decide)) ?_
  refine ay_t_stk (pc := 8) (S' := [.int 1, .int (rw_at (D 320) 2 a1)]) fe_150_8 rfl ?_
  by_cases hc1 : ¬ (rw_at (D 320) 2 a1) = 1
  · rw [if_pos hc1] at h
    refine ay_t_pos (pc := 9) hc1 fe_150_9 rfl ?_
    refine ay_t_stk (pc := 16) (S' := [.int 0]) fe_150_16 rfl ?_
    cases h
    exact ay_t_iret fe_150_17 rfl rfl
  · rw [if_neg hc1] at h
    refine ay_t_neg (pc := 9) hc1 fe_150_9 rfl ?_
    refine ay_t_stk (pc := 12) (S' := [.int 1]) fe_150_12 rfl ?_
    refine ay_t_br (pc := 13) (pc' := 17) fe_150_13 rfl ?_
    cases h
    exact ay_t_iret fe_150_17 rfl rfl
def fn_151 (a1 : Int32) (D : am_DD) : Option (Int32 × Nat × am_DD) := (match fn_145 a1 D with | none => none | some (y1, D2) => (if ¬ y1 = 0 then (match fn_150_253 a1 D2 with | none => none | some (y5, D6) => (if ¬ y5 = 0 then (match fn_22 D6 with | none => none | some (y9, D10) => (match sh_fetch_253 a1 D10 with | none => none | some D12 => some ((D12 1 0), 0, D12))) else some (0, 2, D6))) else some (0, 1, D2)))
set_option maxHeartbeats 2000000 in
theorem ev_151 {a1 : Int32} {D : am_DD} {y : Int32} {k : Nat} {Z : am_DD} (h : fn_151 a1 D = some (y, k, Z)) : ay_mo 151 [.ref 0, .int a1] D (ay_oc y k) Z := by
  unfold fn_151 at h
  refine ay_m_of (L := [some (.ref 0), some (.int a1)]) rfl ?_
  refine ay_t_loc (pc := 0) fe_151_0 rfl ?_
  cases hk3 : fn_145 a1 D with
  | none => rw [hk3] at h; cases h
  | some z =>
    obtain ⟨y1, D2⟩ := z
    rw [hk3] at h
    dsimp only at h
    refine ay_t_call (pc := 1) (w := some (.int y1)) fe_151_1 (ay_args [.int a1] [] rfl rfl (Nat.le_of_ble_eq_true rfl) (Nat.le_of_ble_eq_true rfl)) rfl (ev_145 hk3) ?_
    by_cases hc4 : ¬ y1 = 0
    · rw [if_pos hc4] at h
      refine ay_t_pos (pc := 4) hc4 fe_151_4 rfl ?_
      refine ay_t_loc (pc := 17) fe_151_17 rfl ?_
      refine ay_t_getR (pc := 18) (w := .ref 253) fe_151_18 at_0 (by decide +kernel) rfl ?_
      refine ay_t_loc (pc := 21) fe_151_21 rfl ?_
      cases hk7 : fn_150_253 a1 D2 with
      | none => rw [hk7] at h; cases h
      | some z =>
        obtain ⟨y5, D6⟩ := z
        rw [hk7] at h
        dsimp only at h
        refine ay_t_call (pc := 22) (w := some (.int y5)) fe_151_22 (ay_args [.ref 253, .int a1] [] rfl rfl (Nat.le_of_ble_eq_true rfl) (Nat.le_of_ble_eq_true rfl)) (ay_rcvV at_253 rfl) (ev_150_253 hk7) ?_
        by_cases hc8 : ¬ y5 = 0
        · rw [if_pos hc8] at h
          refine ay_t_pos (pc := 25) hc8 fe_151_25 rfl ?_
          refine ay_t_loc (pc := 38) fe_151_38 rfl ?_
          refine ay_t_getR (pc := 39) (w := .ref 56) fe_151_39 at_0 (by decide +kernel) rfl ?_
          refine ay_t_loc (pc := 42) fe_151_42 rfl ?_
          refine ay_t_getR (pc := 43) (w := .ref 1) fe_151_43 at_0 (by decide +kernel) rfl ?_
          cases hk11 : fn_22 D6 with
          | none => rw [hk11] at h; cases h
          | some z =>
            obtain ⟨y9, D10⟩ := z
            rw [hk11] at h
            dsimp only at h
            refine ay_t_call (pc := 46) (w := none) fe_151_46 (ay_args [.ref 56, .ref 1] [] rfl rfl (Nat.le_of_ble_eq_true rfl) (Nat.le_of_ble_eq_true rfl)) (ay_rcvV at_56 rfl) (ev_22 hk11) ?_
            refine ay_t_loc (pc := 49) fe_151_49 rfl ?_
            refine ay_t_getR (pc := 50) (w := .ref 253) fe_151_50 at_0 (by decide +kernel) rfl ?_
            refine ay_t_loc (pc := 53) fe_151_53 rfl ?_
            refine ay_t_loc (pc := 54) fe_151_54 rfl ?_
            refine ay_t_getR (pc := 55) (w := .ref 1) fe_151_55 at_0 (by decide +kernel) rfl ?_
            cases hk13 : sh_fetch_253 a1 D10 with
            | none => rw [hk13] at h; cases h
            | some D12 =>
              rw [hk13] at h
              dsimp only at h
              refine ay_t_call (pc := 58) (w := none) fe_151_58 (ay_args [.ref 253, .int a1, .ref 1] [] rfl rfl (Nat.le_of_ble_eq_true rfl) (Nat.le_of_ble_eq_true rfl)) (ay_rcvV at_253 rfl) (mt_sh_fetch_253 hk13) ?_
              refine ay_t_loc (pc := 61) fe_151_61 rfl ?_
              refine ay_t_getR (pc := 62) (w := .ref 1) fe_151_62 at_0 (by decide +kernel) rfl ?_
              refine ay_t_getI (pc := 65) fe_151_65 at_1 (by decide +kernel) rfl ?_
              cases h
              exact ay_t_iret fe_151_68 rfl rfl
        · rw [if_neg hc8] at h
          refine ay_t_neg (pc := 25) hc8 fe_151_25 rfl ?_
          cases h
          exact ay_t_thr fe_151_28 (by decide)
    · rw [if_neg hc4] at h
      refine ay_t_neg (pc := 4) hc4 fe_151_4 rfl ?_
      cases h
      exact ay_t_thr fe_151_7 (by decide)
def fn_153 (a1 : Int32) (D : am_DD) : Option (Int32 × am_DD) := (match fn_148 a1 D with | none => none | some (y1, D2) => (if ¬ y1 = 0 then (if a1 < 0 ∨ 2 ≤ a1.toNatClampNeg then none else (if (D2 325 a1.toNatClampNeg) = 0 then (match fn_29 2 D2 with | none => none | some (y7, D8) => (if ¬ y7 = 0 then (match fn_31 D8 with | none => none | some (y11, D12) => (match fn_30 324 810 322 405 (405 * a1) 0 D12 with | none => none | some (y14, D15) => some ((D15 322 0), D15))) else some (0, D8))) else (match fn_29 0 D2 with | none => none | some (y17, D18) => (if ¬ y17 = 0 then (match fn_31 D18 with | none => none | some (y21, D22) => (match fn_30 324 810 322 405 (405 * a1) 0 D22 with | none => none | some (y24, D25) => some ((D25 322 0), D25))) else some (0, D18))))) else (match fn_29 1 D2 with | none => none | some (y27, D28) => (if ¬ y27 = 0 then (match fn_31 D28 with | none => none | some (y31, D32) => (match fn_30 324 810 322 405 (405 * a1) 0 D32 with | none => none | some (y34, D35) => some ((D35 322 0), D35))) else some (0, D28)))))
set_option maxHeartbeats 2000000 in
theorem ev_153 {a1 : Int32} {D : am_DD} {y : Int32} {Z : am_DD} (h : fn_153 a1 D = some (y, Z)) : ay_mo 153 [.ref 321, .int a1] D (.inl (some (.int y))) Z := by
  unfold fn_153 at h
  refine ay_m_of (L := [some (.ref 321), some (.int a1)]) rfl ?_
  refine ay_t_loc (pc := 0) fe_153_0 rfl ?_
  refine ay_t_loc (pc := 1) fe_153_1 rfl ?_
  cases hk3 : fn_148 a1 D with
  | none => rw [hk3] at h; cases h
  | some z =>
    obtain ⟨y1, D2⟩ := z
    rw [hk3] at h
    dsimp only at h
    refine ay_t_call (pc := 2) (w := some (.int y1)) fe_153_2 (ay_args [.int a1] [.ref 321] rfl rfl (Nat.le_of_ble_eq_true rfl) (Nat.le_of_ble_eq_true rfl)) rfl (ev_148 hk3) ?_
    by_cases hc4 : ¬ y1 = 0
    · rw [if_pos hc4] at h
      refine ay_t_pos (pc := 5) hc4 fe_153_5 rfl ?_
      refine ay_t_loc (pc := 12) fe_153_12 rfl ?_
      refine ay_t_getR (pc := 13) (w := .ref 325) fe_153_13 at_321 (by decide +kernel) rfl ?_
      refine ay_t_loc (pc := 16) fe_153_16 rfl ?_
      by_cases hb5 : a1 < 0 ∨ 2 ≤ a1.toNatClampNeg
      · rw [if_pos hb5] at h; cases h
      rw [if_neg hb5] at h
      refine ay_t_baload (pc := 17) fe_153_17 at_325 (by decide) hb5 ?_
      by_cases hc6 : (D2 325 a1.toNatClampNeg) = 0
      · rw [if_pos hc6] at h
        refine ay_t_pos (pc := 18) hc6 fe_153_18 rfl ?_
        refine ay_t_stk (pc := 25) (S' := [.int 2, .ref 321]) fe_153_25 rfl ?_
        cases hk9 : fn_29 2 D2 with
        | none => rw [hk9] at h; cases h
        | some z =>
          obtain ⟨y7, D8⟩ := z
          rw [hk9] at h
          dsimp only at h
          refine ay_t_call (pc := 26) (w := some (.int y7)) fe_153_26 (ay_args [.ref 321, .int 2] [] rfl rfl (Nat.le_of_ble_eq_true rfl) (Nat.le_of_ble_eq_true rfl)) (ay_rcvV at_321 rfl) (ev_29 hk9) ?_
          by_cases hc10 : ¬ y7 = 0
          · rw [if_pos hc10] at h
            refine ay_t_pos (pc := 29) hc10 fe_153_29 rfl ?_
            refine ay_t_loc (pc := 34) fe_153_34 rfl ?_
            cases hk13 : fn_31 D8 with
            | none => rw [hk13] at h; cases h
            | some z =>
              obtain ⟨y11, D12⟩ := z
              rw [hk13] at h
              dsimp only at h
              refine ay_t_call (pc := 35) (w := none) fe_153_35 (ay_args [.ref 321] [] rfl rfl (Nat.le_of_ble_eq_true rfl) (Nat.le_of_ble_eq_true rfl)) (ay_rcvV at_321 rfl) (ev_31 hk13) ?_
              refine ay_t_loc (pc := 38) fe_153_38 rfl ?_
              refine ay_t_getR (pc := 39) (w := .ref 324) fe_153_39 at_321 (by decide +kernel) rfl ?_
              refine ay_t_stk (pc := 42) (S' := [.int 405, .ref 324]) fe_153_42 rfl ?_
              refine ay_t_loc (pc := 45) fe_153_45 rfl ?_
              refine ay_t_stk (pc := 46) (S' := [.int (405 * a1), .ref 324]) fe_153_46 rfl ?_
              refine ay_t_loc (pc := 47) fe_153_47 rfl ?_
              refine ay_t_getR (pc := 48) (w := .ref 322) fe_153_48 at_321 (by decide +kernel) rfl ?_
              refine ay_t_stk (pc := 51) (S' := [.int 0, .ref 322, .int (405 * a1), .ref 324]) fe_153_51 rfl ?_
              cases hk16 : fn_30 324 810 322 405 (405 * a1) 0 D12 with
              | none => rw [hk16] at h; cases h
              | some z =>
                obtain ⟨y14, D15⟩ := z
                rw [hk16] at h
                dsimp only at h
                refine ay_t_call (pc := 52) (w := none) fe_153_52 (ay_args [.ref 324, .int (405 * a1), .ref 322, .int 0] [] rfl rfl (Nat.le_of_ble_eq_true rfl) (Nat.le_of_ble_eq_true rfl)) rfl (ev_30 at_324 at_322 (by decide) hk16) ?_
                refine ay_t_loc (pc := 55) fe_153_55 rfl ?_
                refine ay_t_getR (pc := 56) (w := .ref 322) fe_153_56 at_321 (by decide +kernel) rfl ?_
                refine ay_t_stk (pc := 59) (S' := [.int 0, .ref 322]) fe_153_59 rfl ?_
                refine ay_t_ialoadk (pc := 60) (k := 0) fe_153_60 at_322 (by decide) (by decide) (by decide) ?_
                cases h
                exact ay_t_iret fe_153_61 rfl rfl
          · rw [if_neg hc10] at h
            refine ay_t_neg (pc := 29) hc10 fe_153_29 rfl ?_
            refine ay_t_stk (pc := 32) (S' := [.int 0]) fe_153_32 rfl ?_
            cases h
            exact ay_t_iret fe_153_33 rfl rfl
      · rw [if_neg hc6] at h
        refine ay_t_neg (pc := 18) hc6 fe_153_18 rfl ?_
        refine ay_t_stk (pc := 21) (S' := [.int 0, .ref 321]) fe_153_21 rfl ?_
        refine ay_t_br (pc := 22) (pc' := 26) fe_153_22 rfl ?_
        cases hk19 : fn_29 0 D2 with
        | none => rw [hk19] at h; cases h
        | some z =>
          obtain ⟨y17, D18⟩ := z
          rw [hk19] at h
          dsimp only at h
          refine ay_t_call (pc := 26) (w := some (.int y17)) fe_153_26 (ay_args [.ref 321, .int 0] [] rfl rfl (Nat.le_of_ble_eq_true rfl) (Nat.le_of_ble_eq_true rfl)) (ay_rcvV at_321 rfl) (ev_29 hk19) ?_
          by_cases hc20 : ¬ y17 = 0
          · rw [if_pos hc20] at h
            refine ay_t_pos (pc := 29) hc20 fe_153_29 rfl ?_
            refine ay_t_loc (pc := 34) fe_153_34 rfl ?_
            cases hk23 : fn_31 D18 with
            | none => rw [hk23] at h; cases h
            | some z =>
              obtain ⟨y21, D22⟩ := z
              rw [hk23] at h
              dsimp only at h
              refine ay_t_call (pc := 35) (w := none) fe_153_35 (ay_args [.ref 321] [] rfl rfl (Nat.le_of_ble_eq_true rfl) (Nat.le_of_ble_eq_true rfl)) (ay_rcvV at_321 rfl) (ev_31 hk23) ?_
              refine ay_t_loc (pc := 38) fe_153_38 rfl ?_
              refine ay_t_getR (pc := 39) (w := .ref 324) fe_153_39 at_321 (by decide +kernel) rfl ?_
              refine ay_t_stk (pc := 42) (S' := [.int 405, .ref 324]) fe_153_42 rfl ?_
              refine ay_t_loc (pc := 45) fe_153_45 rfl ?_
              refine ay_t_stk (pc := 46) (S' := [.int (405 * a1), .ref 324]) fe_153_46 rfl ?_
              refine ay_t_loc (pc := 47) fe_153_47 rfl ?_
              refine ay_t_getR (pc := 48) (w := .ref 322) fe_153_48 at_321 (by decide +kernel) rfl ?_
              refine ay_t_stk (pc := 51) (S' := [.int 0, .ref 322, .int (405 * a1), .ref 324]) fe_153_51 rfl ?_
              cases hk26 : fn_30 324 810 322 405 (405 * a1) 0 D22 with
              | none => rw [hk26] at h; cases h
              | some z =>
                obtain ⟨y24, D25⟩ := z
                rw [hk26] at h
                dsimp only at h
                refine ay_t_call (pc := 52) (w := none) fe_153_52 (ay_args [.ref 324, .int (405 * a1), .ref 322, .int 0] [] rfl rfl (Nat.le_of_ble_eq_true rfl) (Nat.le_of_ble_eq_true rfl)) rfl (ev_30 at_324 at_322 (by decide) hk26) ?_
                refine ay_t_loc (pc := 55) fe_153_55 rfl ?_
                refine ay_t_getR (pc := 56) (w := .ref 322) fe_153_56 at_321 (by decide +kernel) rfl ?_
                refine ay_t_stk (pc := 59) (S' := [.int 0, .ref 322]) fe_153_59 rfl ?_
                refine ay_t_ialoadk (pc := 60) (k := 0) fe_153_60 at_322 (by decide) (by decide) (by decide) ?_
                cases h
                exact ay_t_iret fe_153_61 rfl rfl
          · rw [if_neg hc20] at h
            refine ay_t_neg (pc := 29) hc20 fe_153_29 rfl ?_
            refine ay_t_stk (pc := 32) (S' := [.int 0]) fe_153_32 rfl ?_
            cases h
            exact ay_t_iret fe_153_33 rfl rfl
    · rw [if_neg hc4] at h
      refine ay_t_neg (pc := 5) hc4 fe_153_5 rfl ?_
      refine ay_t_stk (pc := 8) (S' := [.int 1, .ref 321]) fe_153_8 rfl ?_
      refine ay_t_br (pc := 9) (pc' := 26) fe_153_9 rfl ?_
      cases hk29 : fn_29 1 D2 with
      | none => rw [hk29] at h; cases h
      | some z =>
        obtain ⟨y27, D28⟩ := z
        rw [hk29] at h
        dsimp only at h
        refine ay_t_call (pc := 26) (w := some (.int y27)) fe_153_26 (ay_args [.ref 321, .int 1] [] rfl rfl (Nat.le_of_ble_eq_true rfl) (Nat.le_of_ble_eq_true rfl)) (ay_rcvV at_321 rfl) (ev_29 hk29) ?_
        by_cases hc30 : ¬ y27 = 0
        · rw [if_pos hc30] at h
          refine ay_t_pos (pc := 29) hc30 fe_153_29 rfl ?_
          refine ay_t_loc (pc := 34) fe_153_34 rfl ?_
          cases hk33 : fn_31 D28 with
          | none => rw [hk33] at h; cases h
          | some z =>
            obtain ⟨y31, D32⟩ := z
            rw [hk33] at h
            dsimp only at h
            refine ay_t_call (pc := 35) (w := none) fe_153_35 (ay_args [.ref 321] [] rfl rfl (Nat.le_of_ble_eq_true rfl) (Nat.le_of_ble_eq_true rfl)) (ay_rcvV at_321 rfl) (ev_31 hk33) ?_
            refine ay_t_loc (pc := 38) fe_153_38 rfl ?_
            refine ay_t_getR (pc := 39) (w := .ref 324) fe_153_39 at_321 (by decide +kernel) rfl ?_
            refine ay_t_stk (pc := 42) (S' := [.int 405, .ref 324]) fe_153_42 rfl ?_
            refine ay_t_loc (pc := 45) fe_153_45 rfl ?_
            refine ay_t_stk (pc := 46) (S' := [.int (405 * a1), .ref 324]) fe_153_46 rfl ?_
            refine ay_t_loc (pc := 47) fe_153_47 rfl ?_
            refine ay_t_getR (pc := 48) (w := .ref 322) fe_153_48 at_321 (by decide +kernel) rfl ?_
            refine ay_t_stk (pc := 51) (S' := [.int 0, .ref 322, .int (405 * a1), .ref 324]) fe_153_51 rfl ?_
            cases hk36 : fn_30 324 810 322 405 (405 * a1) 0 D32 with
            | none => rw [hk36] at h; cases h
            | some z =>
              obtain ⟨y34, D35⟩ := z
              rw [hk36] at h
              dsimp only at h
              refine ay_t_call (pc := 52) (w := none) fe_153_52 (ay_args [.ref 324, .int (405 * a1), .ref 322, .int 0] [] rfl rfl (Nat.le_of_ble_eq_true rfl) (Nat.le_of_ble_eq_true rfl)) rfl (ev_30 at_324 at_322 (by decide) hk36) ?_
              refine ay_t_loc (pc := 55) fe_153_55 rfl ?_
              refine ay_t_getR (pc := 56) (w := .ref 322) fe_153_56 at_321 (by decide +kernel) rfl ?_
              refine ay_t_stk (pc := 59) (S' := [.int 0, .ref 322]) fe_153_59 rfl ?_
              refine ay_t_ialoadk (pc := 60) (k := 0) fe_153_60 at_322 (by decide) (by decide) (by decide) ?_
              cases h
              exact ay_t_iret fe_153_61 rfl rfl
        · rw [if_neg hc30] at h
          refine ay_t_neg (pc := 29) hc30 fe_153_29 rfl ?_
          refine ay_t_stk (pc := 32) (S' := [.int 0]) fe_153_32 rfl ?_
          cases h
          exact ay_t_iret fe_153_33 rfl rfl
def fn_154 (a1 a2 : Int32) (D : am_DD) : Option (Int32 × am_DD) := some ((rw_at (D 18) 24 ((2 * a1) + a2)), D)
set_option maxHeartbeats 2000000 in
theorem ev_154 {a1 a2 : Int32} {D : am_DD} {y : Int32} {Z : am_DD} (h : fn_154 a1 a2 D = some (y, Z)) : ay_mo 154 [.ref 8, .int a1, .int a2] D (.inl (some (.int y))) Z := by
  unfold fn_154 at h
  refine ay_m_of (L := [some (.ref 8), some (.int a1), some (.int a2)]) rfl ?_
  refine ay_t_loc (pc := 0) fe_154_0 rfl ?_
  refine ay_t_getR (pc := 1) (w := .ref 17) fe_154_1 at_8 (by decide +kernel) rfl ?_
  refine ay_t_stk (pc := 4) (S' := [.int 2, .ref 17]) fe_154_4 rfl ?_
  refine ay_t_loc (pc := 5) fe_154_5 rfl ?_
  refine ay_t_stk (pc := 6) (S' := [.int (2 * a1), .ref 17]) fe_154_6 rfl ?_
  refine ay_t_loc (pc := 7) fe_154_7 rfl ?_
  refine ay_t_stk (pc := 8) (S' := [.int ((2 * a1) + a2), .ref 17]) fe_154_8 rfl ?_
  refine ay_t_call (pc := 9) (w := some (.int (rw_at (D 18) 24 ((2 * a1) + a2)))) fe_154_9 (ay_args [.ref 17, .int ((2 * a1) + a2)] [] rfl rfl (Nat.le_of_ble_eq_true rfl) (Nat.le_of_ble_eq_true rfl)) (ay_rcvV at_17 rfl) (mt_at at_17 at_18 (by decide)) ?_
  cases h
  exact ay_t_iret fe_154_12 rfl rfl
def fn_155_4 : Nat → Int32 → Int32 → Int32 → am_DD → Option (Int32 × am_DD)
  | 0, _, _, _, _ => none
  | n + 1, x1, x2, x3, D => (if (D 19 0) ≤ x3 then some (x2, D) else (if ¬ (rw_at (D 21) 40 x3) = x1 then fn_155_4 n x1 (x2 + 0) (x3 + 1) D else fn_155_4 n x1 (x2 + 1) (x3 + 1) D))
set_option maxHeartbeats 2000000 in
theorem ev_155_4 : ∀ (n : Nat) (x1 x2 x3 : Int32) (D : am_DD) (y : Int32) (Z : am_DD), fn_155_4 n x1 x2 x3 D = some (y, Z) → ay_to 155 4 [some (.ref 19), some (.int x1), some (.int x2), some (.int x3)] [] D (.inl (some (.int y))) Z := by
  intro n
  induction n with
  | zero => intro x1 x2 x3 D y Z h; cases h
  | succ n ih =>
    intro x1 x2 x3 D y Z h
    rw [fn_155_4] at h
    refine ay_t_loc (pc := 4) fe_155_4 rfl ?_
    refine ay_t_loc (pc := 5) fe_155_5 rfl ?_
    refine ay_t_getI (pc := 6) fe_155_6 at_19 (by decide +kernel) rfl ?_
    by_cases hc1 : (D 19 0) ≤ x3
    · rw [if_pos hc1] at h
      refine ay_t_pos (pc := 9) hc1 fe_155_9 rfl ?_
      refine ay_t_loc (pc := 38) fe_155_38 rfl ?_
      cases h
      exact ay_t_iret fe_155_39 rfl rfl
    · rw [if_neg hc1] at h
      refine ay_t_neg (pc := 9) hc1 fe_155_9 rfl ?_
      refine ay_t_loc (pc := 12) fe_155_12 rfl ?_
      refine ay_t_loc (pc := 13) fe_155_13 rfl ?_
      refine ay_t_getR (pc := 14) (w := .ref 20) fe_155_14 at_19 (by decide +kernel) rfl ?_
      refine ay_t_loc (pc := 17) fe_155_17 rfl ?_
      refine ay_t_call (pc := 18) (w := some (.int (rw_at (D 21) 40 x3))) fe_155_18 (ay_args [.ref 20, .int x3] [.int x2] rfl rfl (Nat.le_of_ble_eq_true rfl) (Nat.le_of_ble_eq_true rfl)) (ay_rcvV at_20 rfl) (mt_at at_20 at_21 (by decide)) ?_
      refine ay_t_loc (pc := 21) fe_155_21 rfl ?_
      by_cases hc2 : ¬ (rw_at (D 21) 40 x3) = x1
      · rw [if_pos hc2] at h
        refine ay_t_pos (pc := 22) hc2 fe_155_22 rfl ?_
        refine ay_t_stk (pc := 29) (S' := [.int 0, .int x2]) fe_155_29 rfl ?_
        refine ay_t_stk (pc := 30) (S' := [.int (x2 + 0)]) fe_155_30 rfl ?_
        refine ay_t_loc (pc := 31) (L' := [some (.ref 19), some (.int x1), some (.int (x2 + 0)), some (.int x3)]) fe_155_31 rfl ?_
        refine ay_t_loc (pc := 32) (L' := [some (.ref 19), some (.int x1), some (.int (x2 + 0)), some (.int (x3 + 1))]) fe_155_32 rfl ?_
        refine ay_t_br (pc := 35) (pc' := 4) fe_155_35 rfl ?_
        exact ay_t_less (ay_ls (ay_ls (ay_ls (ay_ls ay_l0)))) (ih _ _ _ _ _ _ h)
      · rw [if_neg hc2] at h
        refine ay_t_neg (pc := 22) hc2 fe_155_22 rfl ?_
        refine ay_t_stk (pc := 25) (S' := [.int 1, .int x2]) fe_155_25 rfl ?_
        refine ay_t_br (pc := 26) (pc' := 30) fe_155_26 rfl ?_
        refine ay_t_stk (pc := 30) (S' := [.int (x2 + 1)]) fe_155_30 rfl ?_
        refine ay_t_loc (pc := 31) (L' := [some (.ref 19), some (.int x1), some (.int (x2 + 1)), some (.int x3)]) fe_155_31 rfl ?_
        refine ay_t_loc (pc := 32) (L' := [some (.ref 19), some (.int x1), some (.int (x2 + 1)), some (.int (x3 + 1))]) fe_155_32 rfl ?_
        refine ay_t_br (pc := 35) (pc' := 4) fe_155_35 rfl ?_
        exact ay_t_less (ay_ls (ay_ls (ay_ls (ay_ls ay_l0)))) (ih _ _ _ _ _ _ h)
def fn_155 (a1 : Int32) (D : am_DD) : Option (Int32 × am_DD) := fn_155_4 am_F a1 0 0 D
set_option maxHeartbeats 2000000 in
theorem ev_155 {a1 : Int32} {D : am_DD} {y : Int32} {Z : am_DD} (h : fn_155 a1 D = some (y, Z)) : ay_mo 155 [.ref 19, .int a1] D (.inl (some (.int y))) Z := by
  unfold fn_155 at h
  refine ay_m_of (L := [some (.ref 19), some (.int a1), none, none]) rfl ?_
  refine ay_t_stk (pc := 0) (S' := [.int 0]) fe_155_0 rfl ?_
  refine ay_t_loc (pc := 1) (L' := [some (.ref 19), some (.int a1), some (.int 0), none]) fe_155_1 rfl ?_
  refine ay_t_stk (pc := 2) (S' := [.int 0]) fe_155_2 rfl ?_
  refine ay_t_loc (pc := 3) (L' := [some (.ref 19), some (.int a1), some (.int 0), some (.int 0)]) fe_155_3 rfl ?_
  exact ay_t_less (ay_ls (ay_ls (ay_ls (ay_ls ay_l0)))) (ev_155_4 _ _ _ _ _ _ _ h)
def fn_156 (a1 a2 : Int32) (D : am_DD) : Option (Int32 × Nat × am_DD) := (match fn_36 a1 D with | none => none | some (y1, D2) => (if ¬ y1 = 0 then (if a2 = 0 then some ((rw_at (D2 10) 12 a1), 0, D2) else (if a2 = 1 then some ((rw_at (D2 12) 12 a1), 0, D2) else (if a2 = 2 then (match fn_73 a1 (a2 - 2) D2 with | none => none | some (y8, D9) => some (y8, 0, D9)) else (if a2 = 3 then (match fn_73 a1 (a2 - 2) D2 with | none => none | some (y12, D13) => some (y12, 0, D13)) else (if a2 = 4 then (match fn_154 a1 (a2 - 4) D2 with | none => none | some (y16, D17) => some (y16, 0, D17)) else (if a2 = 5 then (match fn_154 a1 (a2 - 4) D2 with | none => none | some (y20, D21) => some (y20, 0, D21)) else (if a2 = 6 then (match fn_155 a1 D2 with | none => none | some (y24, D25) => some (y24, 0, D25)) else (if a2 = 7 then some ((rw_at (D2 14) 12 a1), 0, D2) else some (0, 1, D2))))))))) else some (0, 3, D2)))
set_option maxHeartbeats 2000000 in
theorem ev_156 {a1 a2 : Int32} {D : am_DD} {y : Int32} {k : Nat} {Z : am_DD} (h : fn_156 a1 a2 D = some (y, k, Z)) : ay_mo 156 [.ref 0, .int a1, .int a2] D (ay_oc y k) Z := by
  unfold fn_156 at h
  refine ay_m_of (L := [some (.ref 0), some (.int a1), some (.int a2)]) rfl ?_
  refine ay_t_loc (pc := 0) fe_156_0 rfl ?_
  refine ay_t_getR (pc := 1) (w := .ref 1) fe_156_1 at_0 (by decide +kernel) rfl ?_
  refine ay_t_getR (pc := 4) (w := .ref 8) fe_156_4 at_1 (by decide +kernel) rfl ?_
  refine ay_t_loc (pc := 7) fe_156_7 rfl ?_
  cases hk3 : fn_36 a1 D with
  | none => rw [hk3] at h; cases h
  | some z =>
    obtain ⟨y1, D2⟩ := z
    rw [hk3] at h
    dsimp only at h
    refine ay_t_call (pc := 8) (w := some (.int y1)) fe_156_8 (ay_args [.ref 8, .int a1] [] rfl rfl (Nat.le_of_ble_eq_true rfl) (Nat.le_of_ble_eq_true rfl)) (ay_rcvV at_8 rfl) (ev_36 hk3) ?_
    by_cases hc4 : ¬ y1 = 0
    · rw [if_pos hc4] at h
      refine ay_t_pos (pc := 11) hc4 fe_156_11 rfl ?_
      refine ay_t_loc (pc := 24) fe_156_24 rfl ?_
      by_cases hc5 : a2 = 0
      · rw [if_pos hc5] at h
        refine ay_t_br (pc := 25) (pc' := 72) (S' := []) fe_156_25 (by rw [hc5]; rfl) ?_
        refine ay_t_loc (pc := 72) fe_156_72 rfl ?_
        refine ay_t_getR (pc := 73) (w := .ref 1) fe_156_73 at_0 (by decide +kernel) rfl ?_
        refine ay_t_getR (pc := 76) (w := .ref 8) fe_156_76 at_1 (by decide +kernel) rfl ?_
        refine ay_t_getR (pc := 79) (w := .ref 9) fe_156_79 at_8 (by decide +kernel) rfl ?_
        refine ay_t_loc (pc := 82) fe_156_82 rfl ?_
        refine ay_t_call (pc := 83) (w := some (.int (rw_at (D2 10) 12 a1))) fe_156_83 (ay_args [.ref 9, .int a1] [] rfl rfl (Nat.le_of_ble_eq_true rfl) (Nat.le_of_ble_eq_true rfl)) (ay_rcvV at_9 rfl) (mt_at at_9 at_10 (by decide)) ?_
        cases h
        exact ay_t_iret fe_156_86 rfl rfl
      · rw [if_neg hc5] at h
        by_cases hc6 : a2 = 1
        · rw [if_pos hc6] at h
          refine ay_t_br (pc := 25) (pc' := 87) (S' := []) fe_156_25 (by rw [hc6]; rfl) ?_
          refine ay_t_loc (pc := 87) fe_156_87 rfl ?_
          refine ay_t_getR (pc := 88) (w := .ref 1) fe_156_88 at_0 (by decide +kernel) rfl ?_
          refine ay_t_getR (pc := 91) (w := .ref 8) fe_156_91 at_1 (by decide +kernel) rfl ?_
          refine ay_t_getR (pc := 94) (w := .ref 11) fe_156_94 at_8 (by decide +kernel) rfl ?_
          refine ay_t_loc (pc := 97) fe_156_97 rfl ?_
          refine ay_t_call (pc := 98) (w := some (.int (rw_at (D2 12) 12 a1))) fe_156_98 (ay_args [.ref 11, .int a1] [] rfl rfl (Nat.le_of_ble_eq_true rfl) (Nat.le_of_ble_eq_true rfl)) (ay_rcvV at_11 rfl) (mt_at at_11 at_12 (by decide)) ?_
          cases h
          exact ay_t_iret fe_156_101 rfl rfl
        · rw [if_neg hc6] at h
          by_cases hc7 : a2 = 2
          · rw [if_pos hc7] at h
            refine ay_t_br (pc := 25) (pc' := 102) (S' := []) fe_156_25 (by rw [hc7]; rfl) ?_
            refine ay_t_loc (pc := 102) fe_156_102 rfl ?_
            refine ay_t_getR (pc := 103) (w := .ref 1) fe_156_103 at_0 (by decide +kernel) rfl ?_
            refine ay_t_getR (pc := 106) (w := .ref 8) fe_156_106 at_1 (by decide +kernel) rfl ?_
            refine ay_t_loc (pc := 109) fe_156_109 rfl ?_
            refine ay_t_loc (pc := 110) fe_156_110 rfl ?_
            refine ay_t_stk (pc := 111) (S' := [.int 2, .int a2, .int a1, .ref 8]) fe_156_111 rfl ?_
            refine ay_t_stk (pc := 112) (S' := [.int (a2 - 2), .int a1, .ref 8]) fe_156_112 rfl ?_
            cases hk10 : fn_73 a1 (a2 - 2) D2 with
            | none => rw [hk10] at h; cases h
            | some z =>
              obtain ⟨y8, D9⟩ := z
              rw [hk10] at h
              dsimp only at h
              refine ay_t_call (pc := 113) (w := some (.int y8)) fe_156_113 (ay_args [.ref 8, .int a1, .int (a2 - 2)] [] rfl rfl (Nat.le_of_ble_eq_true rfl) (Nat.le_of_ble_eq_true rfl)) (ay_rcvV at_8 rfl) (ev_73 hk10) ?_
              cases h
              exact ay_t_iret fe_156_116 rfl rfl
          · rw [if_neg hc7] at h
            by_cases hc11 : a2 = 3
            · rw [if_pos hc11] at h
              refine ay_t_br (pc := 25) (pc' := 102) (S' := []) fe_156_25 (by rw [hc11]; rfl) ?_
              refine ay_t_loc (pc := 102) fe_156_102 rfl ?_
              refine ay_t_getR (pc := 103) (w := .ref 1) fe_156_103 at_0 (by decide +kernel) rfl ?_
              refine ay_t_getR (pc := 106) (w := .ref 8) fe_156_106 at_1 (by decide +kernel) rfl ?_
              refine ay_t_loc (pc := 109) fe_156_109 rfl ?_
              refine ay_t_loc (pc := 110) fe_156_110 rfl ?_
              refine ay_t_stk (pc := 111) (S' := [.int 2, .int a2, .int a1, .ref 8]) fe_156_111 rfl ?_
              refine ay_t_stk (pc := 112) (S' := [.int (a2 - 2), .int a1, .ref 8]) fe_156_112 rfl ?_
              cases hk14 : fn_73 a1 (a2 - 2) D2 with
              | none => rw [hk14] at h; cases h
              | some z =>
                obtain ⟨y12, D13⟩ := z
                rw [hk14] at h
                dsimp only at h
                refine ay_t_call (pc := 113) (w := some (.int y12)) fe_156_113 (ay_args [.ref 8, .int a1, .int (a2 - 2)] [] rfl rfl (Nat.le_of_ble_eq_true rfl) (Nat.le_of_ble_eq_true rfl)) (ay_rcvV at_8 rfl) (ev_73 hk14) ?_
                cases h
                exact ay_t_iret fe_156_116 rfl rfl
            · rw [if_neg hc11] at h
              by_cases hc15 : a2 = 4
              · rw [if_pos hc15] at h
                refine ay_t_br (pc := 25) (pc' := 117) (S' := []) fe_156_25 (by rw [hc15]; rfl) ?_
                refine ay_t_loc (pc := 117) fe_156_117 rfl ?_
                refine ay_t_getR (pc := 118) (w := .ref 1) fe_156_118 at_0 (by decide +kernel) rfl ?_
                refine ay_t_getR (pc := 121) (w := .ref 8) fe_156_121 at_1 (by decide +kernel) rfl ?_
                refine ay_t_loc (pc := 124) fe_156_124 rfl ?_
                refine ay_t_loc (pc := 125) fe_156_125 rfl ?_
                refine ay_t_stk (pc := 126) (S' := [.int 4, .int a2, .int a1, .ref 8]) fe_156_126 rfl ?_
                refine ay_t_stk (pc := 127) (S' := [.int (a2 - 4), .int a1, .ref 8]) fe_156_127 rfl ?_
                cases hk18 : fn_154 a1 (a2 - 4) D2 with
                | none => rw [hk18] at h; cases h
                | some z =>
                  obtain ⟨y16, D17⟩ := z
                  rw [hk18] at h
                  dsimp only at h
                  refine ay_t_call (pc := 128) (w := some (.int y16)) fe_156_128 (ay_args [.ref 8, .int a1, .int (a2 - 4)] [] rfl rfl (Nat.le_of_ble_eq_true rfl) (Nat.le_of_ble_eq_true rfl)) (ay_rcvV at_8 rfl) (ev_154 hk18) ?_
                  cases h
                  exact ay_t_iret fe_156_131 rfl rfl
              · rw [if_neg hc15] at h
                by_cases hc19 : a2 = 5
                · rw [if_pos hc19] at h
                  refine ay_t_br (pc := 25) (pc' := 117) (S' := []) fe_156_25 (by rw [hc19]; rfl) ?_
                  refine ay_t_loc (pc := 117) fe_156_117 rfl ?_
                  refine ay_t_getR (pc := 118) (w := .ref 1) fe_156_118 at_0 (by decide +kernel) rfl ?_
                  refine ay_t_getR (pc := 121) (w := .ref 8) fe_156_121 at_1 (by decide +kernel) rfl ?_
                  refine ay_t_loc (pc := 124) fe_156_124 rfl ?_
                  refine ay_t_loc (pc := 125) fe_156_125 rfl ?_
                  refine ay_t_stk (pc := 126) (S' := [.int 4, .int a2, .int a1, .ref 8]) fe_156_126 rfl ?_
                  refine ay_t_stk (pc := 127) (S' := [.int (a2 - 4), .int a1, .ref 8]) fe_156_127 rfl ?_
                  cases hk22 : fn_154 a1 (a2 - 4) D2 with
                  | none => rw [hk22] at h; cases h
                  | some z =>
                    obtain ⟨y20, D21⟩ := z
                    rw [hk22] at h
                    dsimp only at h
                    refine ay_t_call (pc := 128) (w := some (.int y20)) fe_156_128 (ay_args [.ref 8, .int a1, .int (a2 - 4)] [] rfl rfl (Nat.le_of_ble_eq_true rfl) (Nat.le_of_ble_eq_true rfl)) (ay_rcvV at_8 rfl) (ev_154 hk22) ?_
                    cases h
                    exact ay_t_iret fe_156_131 rfl rfl
                · rw [if_neg hc19] at h
                  by_cases hc23 : a2 = 6
                  · rw [if_pos hc23] at h
                    refine ay_t_br (pc := 25) (pc' := 132) (S' := []) fe_156_25 (by rw [hc23]; rfl) ?_
                    refine ay_t_loc (pc := 132) fe_156_132 rfl ?_
                    refine ay_t_getR (pc := 133) (w := .ref 1) fe_156_133 at_0 (by decide +kernel) rfl ?_
                    refine ay_t_getR (pc := 136) (w := .ref 19) fe_156_136 at_1 (by decide +kernel) rfl ?_
                    refine ay_t_loc (pc := 139) fe_156_139 rfl ?_
                    cases hk26 : fn_155 a1 D2 with
                    | none => rw [hk26] at h; cases h
                    | some z =>
                      obtain ⟨y24, D25⟩ := z
                      rw [hk26] at h
                      dsimp only at h
                      refine ay_t_call (pc := 140) (w := some (.int y24)) fe_156_140 (ay_args [.ref 19, .int a1] [] rfl rfl (Nat.le_of_ble_eq_true rfl) (Nat.le_of_ble_eq_true rfl)) (ay_rcvV at_19 rfl) (ev_155 hk26) ?_
                      cases h
                      exact ay_t_iret fe_156_143 rfl rfl
                  · rw [if_neg hc23] at h
                    by_cases hc27 : a2 = 7
                    · rw [if_pos hc27] at h
                      refine ay_t_br (pc := 25) (pc' := 144) (S' := []) fe_156_25 (by rw [hc27]; rfl) ?_
                      refine ay_t_loc (pc := 144) fe_156_144 rfl ?_
                      refine ay_t_getR (pc := 145) (w := .ref 1) fe_156_145 at_0 (by decide +kernel) rfl ?_
                      refine ay_t_getR (pc := 148) (w := .ref 8) fe_156_148 at_1 (by decide +kernel) rfl ?_
                      refine ay_t_getR (pc := 151) (w := .ref 13) fe_156_151 at_8 (by decide +kernel) rfl ?_
                      refine ay_t_loc (pc := 154) fe_156_154 rfl ?_
                      refine ay_t_call (pc := 155) (w := some (.int (rw_at (D2 14) 12 a1))) fe_156_155 (ay_args [.ref 13, .int a1] [] rfl rfl (Nat.le_of_ble_eq_true rfl) (Nat.le_of_ble_eq_true rfl)) (ay_rcvV at_13 rfl) (mt_at at_13 at_14 (by decide)) ?_
                      cases h
                      exact ay_t_iret fe_156_158 rfl rfl
                    · rw [if_neg hc27] at h
                      refine ay_t_br (pc := 25) (pc' := 159) fe_156_25 (ay_tab_def (by have z0 := ay_ne_toInt (c := 0) hc5 (by decide); have z1 := ay_ne_toInt (c := 1) hc6 (by decide); have z2 := ay_ne_toInt (c := 2) hc7 (by decide); have z3 := ay_ne_toInt (c := 3) hc11 (by decide); have z4 := ay_ne_toInt (c := 4) hc15 (by decide); have z5 := ay_ne_toInt (c := 5) hc19 (by decide); have z6 := ay_ne_toInt (c := 6) hc23 (by decide); have z7 := ay_ne_toInt (c := 7) hc27 (by decide); omega) rfl) ?_
                      cases h
                      exact ay_t_thr fe_156_159 (by decide)
    · rw [if_neg hc4] at h
      refine ay_t_neg (pc := 11) hc4 fe_156_11 rfl ?_
      cases h
      exact ay_t_thr fe_156_14 (by decide)
def fn_158 (a1 a2 : Int32) (D : am_DD) : Option (Int32 × am_DD) := (if ((105 + (3 * a1)) + a2) < 0 ∨ 405 ≤ ((105 + (3 * a1)) + a2).toNatClampNeg then none else some ((D 322 ((105 + (3 * a1)) + a2).toNatClampNeg), D))
set_option maxHeartbeats 2000000 in
theorem ev_158 {a1 a2 : Int32} {D : am_DD} {y : Int32} {Z : am_DD} (h : fn_158 a1 a2 D = some (y, Z)) : ay_mo 158 [.ref 321, .int a1, .int a2] D (.inl (some (.int y))) Z := by
  unfold fn_158 at h
  refine ay_m_of (L := [some (.ref 321), some (.int a1), some (.int a2)]) rfl ?_
  refine ay_t_loc (pc := 0) fe_158_0 rfl ?_
  refine ay_t_getR (pc := 1) (w := .ref 322) fe_158_1 at_321 (by decide +kernel) rfl ?_
  refine ay_t_stk (pc := 4) (S' := [.int 105, .ref 322]) fe_158_4 rfl ?_
  refine ay_t_stk (pc := 6) (S' := [.int 3, .int 105, .ref 322]) fe_158_6 rfl ?_
  refine ay_t_loc (pc := 7) fe_158_7 rfl ?_
  refine ay_t_stk (pc := 8) (S' := [.int (3 * a1), .int 105, .ref 322]) fe_158_8 rfl ?_
  refine ay_t_stk (pc := 9) (S' := [.int (105 + (3 * a1)), .ref 322]) fe_158_9 rfl ?_
  refine ay_t_loc (pc := 10) fe_158_10 rfl ?_
  refine ay_t_stk (pc := 11) (S' := [.int ((105 + (3 * a1)) + a2), .ref 322]) fe_158_11 rfl ?_
  by_cases hb1 : ((105 + (3 * a1)) + a2) < 0 ∨ 405 ≤ ((105 + (3 * a1)) + a2).toNatClampNeg
  · rw [if_pos hb1] at h; cases h
  rw [if_neg hb1] at h
  refine ay_t_iaload (pc := 12) fe_158_12 at_322 (by decide) hb1 ?_
  cases h
  exact ay_t_iret fe_158_13 rfl rfl
def fn_159_4 : Nat → Int32 → Int32 → Int32 → am_DD → Option (Int32 × am_DD)
  | 0, _, _, _, _ => none
  | n + 1, x1, x2, x3, D => (if (D 322 3) ≤ x3 then some (x2, D) else (match fn_158 x3 0 D with | none => none | some (y2, D3) => (if ¬ y2 = x1 then fn_159_4 n x1 (x2 + 0) (x3 + 1) D3 else fn_159_4 n x1 (x2 + 1) (x3 + 1) D3)))
set_option maxHeartbeats 2000000 in
theorem ev_159_4 : ∀ (n : Nat) (x1 x2 x3 : Int32) (D : am_DD) (y : Int32) (Z : am_DD), fn_159_4 n x1 x2 x3 D = some (y, Z) → ay_to 159 4 [some (.ref 321), some (.int x1), some (.int x2), some (.int x3)] [] D (.inl (some (.int y))) Z := by
  intro n
  induction n with
  | zero => intro x1 x2 x3 D y Z h; cases h
  | succ n ih =>
    intro x1 x2 x3 D y Z h
    rw [fn_159_4] at h
    refine ay_t_loc (pc := 4) fe_159_4 rfl ?_
    refine ay_t_loc (pc := 5) fe_159_5 rfl ?_
    refine ay_t_getR (pc := 6) (w := .ref 322) fe_159_6 at_321 (by decide +kernel) rfl ?_
    refine ay_t_stk (pc := 9) (S' := [.int 3, .ref 322, .int x3]) fe_159_9 rfl ?_
    refine ay_t_ialoadk (pc := 10) (k := 3) fe_159_10 at_322 (by decide) (by decide) (by decide) ?_
    by_cases hc1 : (D 322 3) ≤ x3
    · rw [if_pos hc1] at h
      refine ay_t_pos (pc := 11) hc1 fe_159_11 rfl ?_
      refine ay_t_loc (pc := 38) fe_159_38 rfl ?_
      cases h
      exact ay_t_iret fe_159_39 rfl rfl
    · rw [if_neg hc1] at h
      refine ay_t_neg (pc := 11) hc1 fe_159_11 rfl ?_
      refine ay_t_loc (pc := 14) fe_159_14 rfl ?_
      refine ay_t_loc (pc := 15) fe_159_15 rfl ?_
      refine ay_t_loc (pc := 16) fe_159_16 rfl ?_
      refine ay_t_stk (pc := 17) (S' := [.int 0, .int x3, .ref 321, .int x2]) fe_159_17 rfl ?_
      cases hk4 : fn_158 x3 0 D with
      | none => rw [hk4] at h; cases h
      | some z =>
        obtain ⟨y2, D3⟩ := z
        rw [hk4] at h
        dsimp only at h
        refine ay_t_call (pc := 18) (w := some (.int y2)) fe_159_18 (ay_args [.ref 321, .int x3, .int 0] [.int x2] rfl rfl (Nat.le_of_ble_eq_true rfl) (Nat.le_of_ble_eq_true rfl)) (ay_rcvV at_321 rfl) (ev_158 hk4) ?_
        refine ay_t_loc (pc := 21) fe_159_21 rfl ?_
        by_cases hc5 : ¬ y2 = x1
        · rw [if_pos hc5] at h
          refine ay_t_pos (pc := 22) hc5 fe_159_22 rfl ?_
          refine ay_t_stk (pc := 29) (S' := [.int 0, .int x2]) fe_159_29 rfl ?_
          refine ay_t_stk (pc := 30) (S' := [.int (x2 + 0)]) fe_159_30 rfl ?_
          refine ay_t_loc (pc := 31) (L' := [some (.ref 321), some (.int x1), some (.int (x2 + 0)), some (.int x3)]) fe_159_31 rfl ?_
          refine ay_t_loc (pc := 32) (L' := [some (.ref 321), some (.int x1), some (.int (x2 + 0)), some (.int (x3 + 1))]) fe_159_32 rfl ?_
          refine ay_t_br (pc := 35) (pc' := 4) fe_159_35 rfl ?_
          exact ay_t_less (ay_ls (ay_ls (ay_ls (ay_ls ay_l0)))) (ih _ _ _ _ _ _ h)
        · rw [if_neg hc5] at h
          refine ay_t_neg (pc := 22) hc5 fe_159_22 rfl ?_
          refine ay_t_stk (pc := 25) (S' := [.int 1, .int x2]) fe_159_25 rfl ?_
          refine ay_t_br (pc := 26) (pc' := 30) fe_159_26 rfl ?_
          refine ay_t_stk (pc := 30) (S' := [.int (x2 + 1)]) fe_159_30 rfl ?_
          refine ay_t_loc (pc := 31) (L' := [some (.ref 321), some (.int x1), some (.int (x2 + 1)), some (.int x3)]) fe_159_31 rfl ?_
          refine ay_t_loc (pc := 32) (L' := [some (.ref 321), some (.int x1), some (.int (x2 + 1)), some (.int (x3 + 1))]) fe_159_32 rfl ?_
          refine ay_t_br (pc := 35) (pc' := 4) fe_159_35 rfl ?_
          exact ay_t_less (ay_ls (ay_ls (ay_ls (ay_ls ay_l0)))) (ih _ _ _ _ _ _ h)
def fn_159 (a1 : Int32) (D : am_DD) : Option (Int32 × am_DD) := fn_159_4 am_F a1 0 0 D
set_option maxHeartbeats 2000000 in
theorem ev_159 {a1 : Int32} {D : am_DD} {y : Int32} {Z : am_DD} (h : fn_159 a1 D = some (y, Z)) : ay_mo 159 [.ref 321, .int a1] D (.inl (some (.int y))) Z := by
  unfold fn_159 at h
  refine ay_m_of (L := [some (.ref 321), some (.int a1), none, none]) rfl ?_
  refine ay_t_stk (pc := 0) (S' := [.int 0]) fe_159_0 rfl ?_
  refine ay_t_loc (pc := 1) (L' := [some (.ref 321), some (.int a1), some (.int 0), none]) fe_159_1 rfl ?_
  refine ay_t_stk (pc := 2) (S' := [.int 0]) fe_159_2 rfl ?_
  refine ay_t_loc (pc := 3) (L' := [some (.ref 321), some (.int a1), some (.int 0), some (.int 0)]) fe_159_3 rfl ?_
  exact ay_t_less (ay_ls (ay_ls (ay_ls (ay_ls ay_l0)))) (ev_159_4 _ _ _ _ _ _ _ h)
