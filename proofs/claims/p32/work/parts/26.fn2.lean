/-! methods as functions, with what am_run does (written by wip/p32/gen6.py) -/
def fn_43 (a1 : Int32) (D : am_DD) : Option (Int32 × am_DD) := fn_43_4 am_F a1 0 0 D
set_option maxHeartbeats 2000000 in
theorem ev_43 {a1 : Int32} {D : am_DD} {y : Int32} {Z : am_DD} (h : fn_43 a1 D = some (y, Z)) : ay_mo 43 [.ref 19, .int a1] D (.inl (some (.int y))) Z := by
  unfold fn_43 at h
  refine ay_m_of (L := [some (.ref 19), some (.int a1), none, none]) rfl ?_
  refine ay_t_stk (pc := 0) (S' := [.int 0]) fe_43_0 rfl ?_
  refine ay_t_loc (pc := 1) (L' := [some (.ref 19), some (.int a1), some (.int 0), none]) fe_43_1 rfl ?_
  refine ay_t_stk (pc := 2) (S' := [.int 0]) fe_43_2 rfl ?_
  refine ay_t_loc (pc := 3) (L' := [some (.ref 19), some (.int a1), some (.int 0), some (.int 0)]) fe_43_3 rfl ?_
  exact ay_t_less (ay_ls (ay_ls (ay_ls (ay_ls ay_l0)))) (ev_43_4 _ _ _ _ _ _ _ h)
def fn_44 (a1 a2 : Int32) (D : am_DD) : Option (Int32 × Nat × am_DD) := (match fn_34 a1 D with | none => none | some (y1, D2) => (if ¬ y1 = 0 then (if a2 = 0 then some ((rw_at (D2 10) 12 a1), 0, D2) else (if a2 = 1 then some ((rw_at (D2 12) 12 a1), 0, D2) else (if a2 = 2 then (match fn_31 a1 (a2 - 2) D2 with | none => none | some (y8, D9) => some (y8, 0, D9)) else (if a2 = 3 then (match fn_31 a1 (a2 - 2) D2 with | none => none | some (y12, D13) => some (y12, 0, D13)) else (if a2 = 4 then (match fn_42 a1 (a2 - 4) D2 with | none => none | some (y16, D17) => some (y16, 0, D17)) else (if a2 = 5 then (match fn_42 a1 (a2 - 4) D2 with | none => none | some (y20, D21) => some (y20, 0, D21)) else (if a2 = 6 then (match fn_43 a1 D2 with | none => none | some (y24, D25) => some (y24, 0, D25)) else (if a2 = 7 then some ((rw_at (D2 14) 12 a1), 0, D2) else some (0, 1, D2))))))))) else some (0, 3, D2)))
set_option maxHeartbeats 2000000 in
theorem ev_44 {a1 a2 : Int32} {D : am_DD} {y : Int32} {k : Nat} {Z : am_DD} (h : fn_44 a1 a2 D = some (y, k, Z)) : ay_mo 44 [.ref 0, .int a1, .int a2] D (ay_oc y k) Z := by
  unfold fn_44 at h
  refine ay_m_of (L := [some (.ref 0), some (.int a1), some (.int a2)]) rfl ?_
  refine ay_t_loc (pc := 0) fe_44_0 rfl ?_
  refine ay_t_getR (pc := 1) (w := .ref 1) fe_44_1 at_0 (by decide +kernel) rfl ?_
  refine ay_t_getR (pc := 4) (w := .ref 8) fe_44_4 at_1 (by decide +kernel) rfl ?_
  refine ay_t_loc (pc := 7) fe_44_7 rfl ?_
  cases hk3 : fn_34 a1 D with
  | none => rw [hk3] at h; cases h
  | some z =>
    obtain ⟨y1, D2⟩ := z
    rw [hk3] at h
    dsimp only at h
    refine ay_t_call (pc := 8) (w := some (.int y1)) fe_44_8 (ay_args [.ref 8, .int a1] [] rfl rfl (Nat.le_of_ble_eq_true rfl) (Nat.le_of_ble_eq_true rfl)) (ay_rcvV at_8 rfl) (ev_34 hk3) ?_
    by_cases hc4 : ¬ y1 = 0
    · rw [if_pos hc4] at h
      refine ay_t_pos (pc := 11) hc4 fe_44_11 rfl ?_
      refine ay_t_loc (pc := 24) fe_44_24 rfl ?_
      by_cases hc5 : a2 = 0
      · rw [if_pos hc5] at h
        refine ay_t_br (pc := 25) (pc' := 72) (S' := []) fe_44_25 (by rw [hc5]; rfl) ?_
        refine ay_t_loc (pc := 72) fe_44_72 rfl ?_
        refine ay_t_getR (pc := 73) (w := .ref 1) fe_44_73 at_0 (by decide +kernel) rfl ?_
        refine ay_t_getR (pc := 76) (w := .ref 8) fe_44_76 at_1 (by decide +kernel) rfl ?_
        refine ay_t_getR (pc := 79) (w := .ref 9) fe_44_79 at_8 (by decide +kernel) rfl ?_
        refine ay_t_loc (pc := 82) fe_44_82 rfl ?_
        refine ay_t_call (pc := 83) (w := some (.int (rw_at (D2 10) 12 a1))) fe_44_83 (ay_args [.ref 9, .int a1] [] rfl rfl (Nat.le_of_ble_eq_true rfl) (Nat.le_of_ble_eq_true rfl)) (ay_rcvV at_9 rfl) (mt_at at_9 at_10 (by decide)) ?_
        cases h
        exact ay_t_iret fe_44_86 rfl rfl
      · rw [if_neg hc5] at h
        by_cases hc6 : a2 = 1
        · rw [if_pos hc6] at h
          refine ay_t_br (pc := 25) (pc' := 87) (S' := []) fe_44_25 (by rw [hc6]; rfl) ?_
          refine ay_t_loc (pc := 87) fe_44_87 rfl ?_
          refine ay_t_getR (pc := 88) (w := .ref 1) fe_44_88 at_0 (by decide +kernel) rfl ?_
          refine ay_t_getR (pc := 91) (w := .ref 8) fe_44_91 at_1 (by decide +kernel) rfl ?_
          refine ay_t_getR (pc := 94) (w := .ref 11) fe_44_94 at_8 (by decide +kernel) rfl ?_
          refine ay_t_loc (pc := 97) fe_44_97 rfl ?_
          refine ay_t_call (pc := 98) (w := some (.int (rw_at (D2 12) 12 a1))) fe_44_98 (ay_args [.ref 11, .int a1] [] rfl rfl (Nat.le_of_ble_eq_true rfl) (Nat.le_of_ble_eq_true rfl)) (ay_rcvV at_11 rfl) (mt_at at_11 at_12 (by decide)) ?_
          cases h
          exact ay_t_iret fe_44_101 rfl rfl
        · rw [if_neg hc6] at h
          by_cases hc7 : a2 = 2
          · rw [if_pos hc7] at h
            refine ay_t_br (pc := 25) (pc' := 102) (S' := []) fe_44_25 (by rw [hc7]; rfl) ?_
            refine ay_t_loc (pc := 102) fe_44_102 rfl ?_
            refine ay_t_getR (pc := 103) (w := .ref 1) fe_44_103 at_0 (by decide +kernel) rfl ?_
            refine ay_t_getR (pc := 106) (w := .ref 8) fe_44_106 at_1 (by decide +kernel) rfl ?_
            refine ay_t_loc (pc := 109) fe_44_109 rfl ?_
            refine ay_t_loc (pc := 110) fe_44_110 rfl ?_
            refine ay_t_stk (pc := 111) (S' := [.int 2, .int a2, .int a1, .ref 8]) fe_44_111 rfl ?_
            refine ay_t_stk (pc := 112) (S' := [.int (a2 - 2), .int a1, .ref 8]) fe_44_112 rfl ?_
            cases hk10 : fn_31 a1 (a2 - 2) D2 with
            | none => rw [hk10] at h; cases h
            | some z =>
              obtain ⟨y8, D9⟩ := z
              rw [hk10] at h
              dsimp only at h
              refine ay_t_call (pc := 113) (w := some (.int y8)) fe_44_113 (ay_args [.ref 8, .int a1, .int (a2 - 2)] [] rfl rfl (Nat.le_of_ble_eq_true rfl) (Nat.le_of_ble_eq_true rfl)) (ay_rcvV at_8 rfl) (ev_31 hk10) ?_
              cases h
              exact ay_t_iret fe_44_116 rfl rfl
          · rw [if_neg hc7] at h
            by_cases hc11 : a2 = 3
            · rw [if_pos hc11] at h
              refine ay_t_br (pc := 25) (pc' := 102) (S' := []) fe_44_25 (by rw [hc11]; rfl) ?_
              refine ay_t_loc (pc := 102) fe_44_102 rfl ?_
              refine ay_t_getR (pc := 103) (w := .ref 1) fe_44_103 at_0 (by decide +kernel) rfl ?_
              refine ay_t_getR (pc := 106) (w := .ref 8) fe_44_106 at_1 (by decide +kernel) rfl ?_
              refine ay_t_loc (pc := 109) fe_44_109 rfl ?_
              refine ay_t_loc (pc := 110) fe_44_110 rfl ?_
              refine ay_t_stk (pc := 111) (S' := [.int 2, .int a2, .int a1, .ref 8]) fe_44_111 rfl ?_
              refine ay_t_stk (pc := 112) (S' := [.int (a2 - 2), .int a1, .ref 8]) fe_44_112 rfl ?_
              cases hk14 : fn_31 a1 (a2 - 2) D2 with
              | none => rw [hk14] at h; cases h
              | some z =>
                obtain ⟨y12, D13⟩ := z
                rw [hk14] at h
                dsimp only at h
                refine ay_t_call (pc := 113) (w := some (.int y12)) fe_44_113 (ay_args [.ref 8, .int a1, .int (a2 - 2)] [] rfl rfl (Nat.le_of_ble_eq_true rfl) (Nat.le_of_ble_eq_true rfl)) (ay_rcvV at_8 rfl) (ev_31 hk14) ?_
                cases h
                exact ay_t_iret fe_44_116 rfl rfl
            · rw [if_neg hc11] at h
              by_cases hc15 : a2 = 4
              · rw [if_pos hc15] at h
                refine ay_t_br (pc := 25) (pc' := 117) (S' := []) fe_44_25 (by rw [hc15]; rfl) ?_
                refine ay_t_loc (pc := 117) fe_44_117 rfl ?_
                refine ay_t_getR (pc := 118) (w := .ref 1) fe_44_118 at_0 (by decide +kernel) rfl ?_
                refine ay_t_getR (pc := 121) (w := .ref 8) fe_44_121 at_1 (by decide +kernel) rfl ?_
                refine ay_t_loc (pc := 124) fe_44_124 rfl ?_
                refine ay_t_loc (pc := 125) fe_44_125 rfl ?_
                refine ay_t_stk (pc := 126) (S' := [.int 4, .int a2, .int a1, .ref 8]) fe_44_126 rfl ?_
                refine ay_t_stk (pc := 127) (S' := [.int (a2 - 4), .int a1, .ref 8]) fe_44_127 rfl ?_
                cases hk18 : fn_42 a1 (a2 - 4) D2 with
                | none => rw [hk18] at h; cases h
                | some z =>
                  obtain ⟨y16, D17⟩ := z
                  rw [hk18] at h
                  dsimp only at h
                  refine ay_t_call (pc := 128) (w := some (.int y16)) fe_44_128 (ay_args [.ref 8, .int a1, .int (a2 - 4)] [] rfl rfl (Nat.le_of_ble_eq_true rfl) (Nat.le_of_ble_eq_true rfl)) (ay_rcvV at_8 rfl) (ev_42 hk18) ?_
                  cases h
                  exact ay_t_iret fe_44_131 rfl rfl
              · rw [if_neg hc15] at h
                by_cases hc19 : a2 = 5
                · rw [if_pos hc19] at h
                  refine ay_t_br (pc := 25) (pc' := 117) (S' := []) fe_44_25 (by rw [hc19]; rfl) ?_
                  refine ay_t_loc (pc := 117) fe_44_117 rfl ?_
                  refine ay_t_getR (pc := 118) (w := .ref 1) fe_44_118 at_0 (by decide +kernel) rfl ?_
                  refine ay_t_getR (pc := 121) (w := .ref 8) fe_44_121 at_1 (by decide +kernel) rfl ?_
                  refine ay_t_loc (pc := 124) fe_44_124 rfl ?_
                  refine ay_t_loc (pc := 125) fe_44_125 rfl ?_
                  refine ay_t_stk (pc := 126) (S' := [.int 4, .int a2, .int a1, .ref 8]) fe_44_126 rfl ?_
                  refine ay_t_stk (pc := 127) (S' := [.int (a2 - 4), .int a1, .ref 8]) fe_44_127 rfl ?_
                  cases hk22 : fn_42 a1 (a2 - 4) D2 with
                  | none => rw [hk22] at h; cases h
                  | some z =>
                    obtain ⟨y20, D21⟩ := z
                    rw [hk22] at h
                    dsimp only at h
                    refine ay_t_call (pc := 128) (w := some (.int y20)) fe_44_128 (ay_args [.ref 8, .int a1, .int (a2 - 4)] [] rfl rfl (Nat.le_of_ble_eq_true rfl) (Nat.le_of_ble_eq_true rfl)) (ay_rcvV at_8 rfl) (ev_42 hk22) ?_
                    cases h
                    exact ay_t_iret fe_44_131 rfl rfl
                · rw [if_neg hc19] at h
                  by_cases hc23 : a2 = 6
                  · rw [if_pos hc23] at h
                    refine ay_t_br (pc := 25) (pc' := 132) (S' := []) fe_44_25 (by rw [hc23]; rfl) ?_
                    refine ay_t_loc (pc := 132) fe_44_132 rfl ?_
                    refine ay_t_getR (pc := 133) (w := .ref 1) fe_44_133 at_0 (by decide +kernel) rfl ?_
                    refine ay_t_getR (pc := 136) (w := .ref 19) fe_44_136 at_1 (by decide +kernel) rfl ?_
                    refine ay_t_loc (pc := 139) fe_44_139 rfl ?_
                    cases hk26 : fn_43 a1 D2 with
                    | none => rw [hk26] at h; cases h
                    | some z =>
                      obtain ⟨y24, D25⟩ := z
                      rw [hk26] at h
                      dsimp only at h
                      refine ay_t_call (pc := 140) (w := some (.int y24)) fe_44_140 (ay_args [.ref 19, .int a1] [] rfl rfl (Nat.le_of_ble_eq_true rfl) (Nat.le_of_ble_eq_true rfl)) (ay_rcvV at_19 rfl) (ev_43 hk26) ?_
                      cases h
                      exact ay_t_iret fe_44_143 rfl rfl
                  · rw [if_neg hc23] at h
                    by_cases hc27 : a2 = 7
                    · rw [if_pos hc27] at h
                      refine ay_t_br (pc := 25) (pc' := 144) (S' := []) fe_44_25 (by rw [hc27]; rfl) ?_
                      refine ay_t_loc (pc := 144) fe_44_144 rfl ?_
                      refine ay_t_getR (pc := 145) (w := .ref 1) fe_44_145 at_0 (by decide +kernel) rfl ?_
                      refine ay_t_getR (pc := 148) (w := .ref 8) fe_44_148 at_1 (by decide +kernel) rfl ?_
                      refine ay_t_getR (pc := 151) (w := .ref 13) fe_44_151 at_8 (by decide +kernel) rfl ?_
                      refine ay_t_loc (pc := 154) fe_44_154 rfl ?_
                      refine ay_t_call (pc := 155) (w := some (.int (rw_at (D2 14) 12 a1))) fe_44_155 (ay_args [.ref 13, .int a1] [] rfl rfl (Nat.le_of_ble_eq_true rfl) (Nat.le_of_ble_eq_true rfl)) (ay_rcvV at_13 rfl) (mt_at at_13 at_14 (by decide)) ?_
                      cases h
                      exact ay_t_iret fe_44_158 rfl rfl
                    · rw [if_neg hc27] at h
                      refine ay_t_br (pc := 25) (pc' := 159) fe_44_25 (ay_tab_def (by have z0 := ay_ne_toInt (c := 0) hc5 (by decide); have z1 := ay_ne_toInt (c := 1) hc6 (by decide); have z2 := ay_ne_toInt (c := 2) hc7 (by decide); have z3 := ay_ne_toInt (c := 3) hc11 (by decide); have z4 := ay_ne_toInt (c := 4) hc15 (by decide); have z5 := ay_ne_toInt (c := 5) hc19 (by decide); have z6 := ay_ne_toInt (c := 6) hc23 (by decide); have z7 := ay_ne_toInt (c := 7) hc27 (by decide); omega) rfl) ?_
                      cases h
                      exact ay_t_thr fe_44_159 (by decide)
    · rw [if_neg hc4] at h
      refine ay_t_neg (pc := 11) hc4 fe_44_11 rfl ?_
      cases h
      exact ay_t_thr fe_44_14 (by decide)
def fn_45_6 : Nat → Int32 → Int32 → Int32 → am_DD → Option (Int32 × am_DD)
  | 0, _, _, _, _ => none
  | n + 1, x1, x2, x3, D => (match fn_14 1 D with | none => none | some (y1, k212, D2) => (if k212 = 0 then (if y1 ≤ x3 then (match fn_14 9 D2 with | none => none | some (y5, k15, D6) => (if k15 = 0 then (if ¬ x1 = y5 then some (0, D6) else (match fn_14 3 D6 with | none => none | some (y9, k13, D10) => (if k13 = 0 then (if ¬ x2 = y9 then some (0, D10) else some (1, D10)) else none))) else none)) else (match fn_44 x3 4 D2 with | none => none | some (y17, k210, D18) => (if k210 = 0 then (match fn_44 x3 5 D18 with | none => none | some (y20, k208, D21) => (if k208 = 0 then (match fn_44 x3 7 D21 with | none => none | some (y23, k206, D24) => (if k206 = 0 then (match fn_44 x3 6 D24 with | none => none | some (y26, k204, D27) => (if k204 = 0 then (match fn_44 x3 0 D27 with | none => none | some (y29, k202, D30) => (if k202 = 0 then (if ¬ y29 = (((y17 + y20) + y23) - ((y17 + y20) + y23) / 2 * 2) then some (0, D30) else (if 0 < y23 then (match fn_44 x3 2 D30 with | none => none | some (y34, k113, D35) => (if k113 = 0 then (if y34 ≤ x3 then some (0, D35) else (match fn_44 x3 3 D35 with | none => none | some (y38, k111, D39) => (if k111 = 0 then (if y38 ≤ x3 then some (0, D39) else (match fn_44 x3 2 D39 with | none => none | some (y42, k109, D43) => (if k109 = 0 then (match fn_14 1 D43 with | none => none | some (y45, k107, D46) => (if k107 = 0 then (if y42 < y45 then (match fn_44 x3 3 D46 with | none => none | some (y49, k70, D50) => (if k70 = 0 then (match fn_14 1 D50 with | none => none | some (y52, k68, D53) => (if k68 = 0 then (if y49 < y52 then fn_45_6 n (x1 + (y17 + y20)) (x2 + y26) (x3 + 1) D53 else (match fn_44 x3 3 D53 with | none => none | some (y56, k66, D57) => (if k66 = 0 then (if y56 ≤ 19 then some (0, D57) else (match fn_44 x3 3 D57 with | none => none | some (y60, k64, D61) => (if k64 = 0 then (if 25 ≤ y60 then some (0, D61) else fn_45_6 n (x1 + (y17 + y20)) (x2 + y26) (x3 + 1) D61) else none))) else none))) else none)) else none)) else (match fn_44 x3 2 D46 with | none => none | some (y72, k105, D73) => (if k105 = 0 then (if y72 ≤ 19 then some (0, D73) else (match fn_44 x3 2 D73 with | none => none | some (y76, k103, D77) => (if k103 = 0 then (if 25 ≤ y76 then some (0, D77) else (match fn_44 x3 3 D77 with | none => none | some (y80, k101, D81) => (if k101 = 0 then (match fn_14 1 D81 with | none => none | some (y83, k99, D84) => (if k99 = 0 then (if y80 < y83 then fn_45_6 n (x1 + (y17 + y20)) (x2 + y26) (x3 + 1) D84 else (match fn_44 x3 3 D84 with | none => none | some (y87, k97, D88) => (if k97 = 0 then (if y87 ≤ 19 then some (0, D88) else (match fn_44 x3 3 D88 with | none => none | some (y91, k95, D92) => (if k95 = 0 then (if 25 ≤ y91 then some (0, D92) else fn_45_6 n (x1 + (y17 + y20)) (x2 + y26) (x3 + 1) D92) else none))) else none))) else none)) else none))) else none))) else none))) else none)) else none))) else none))) else none)) else (match fn_44 x3 0 D30 with | none => none | some (y115, k200, D116) => (if k200 = 0 then (if ¬ (y17 - y20) = y115 then some (0, D116) else (match fn_44 x3 2 D116 with | none => none | some (y119, k198, D120) => (if k198 = 0 then (if y119 ≤ x3 then some (0, D120) else (match fn_44 x3 3 D120 with | none => none | some (y123, k196, D124) => (if k196 = 0 then (if y123 ≤ x3 then some (0, D124) else (match fn_44 x3 2 D124 with | none => none | some (y127, k194, D128) => (if k194 = 0 then (match fn_14 1 D128 with | none => none | some (y130, k192, D131) => (if k192 = 0 then (if y127 < y130 then (match fn_44 x3 3 D131 with | none => none | some (y134, k155, D135) => (if k155 = 0 then (match fn_14 1 D135 with | none => none | some (y137, k153, D138) => (if k153 = 0 then (if y134 < y137 then fn_45_6 n (x1 + (y17 + y20)) (x2 + y26) (x3 + 1) D138 else (match fn_44 x3 3 D138 with | none => none | some (y141, k151, D142) => (if k151 = 0 then (if y141 ≤ 19 then some (0, D142) else (match fn_44 x3 3 D142 with | none => none | some (y145, k149, D146) => (if k149 = 0 then (if 25 ≤ y145 then some (0, D146) else fn_45_6 n (x1 + (y17 + y20)) (x2 + y26) (x3 + 1) D146) else none))) else none))) else none)) else none)) else (match fn_44 x3 2 D131 with | none => none | some (y157, k190, D158) => (if k190 = 0 then (if y157 ≤ 19 then some (0, D158) else (match fn_44 x3 2 D158 with | none => none | some (y161, k188, D162) => (if k188 = 0 then (if 25 ≤ y161 then some (0, D162) else (match fn_44 x3 3 D162 with | none => none | some (y165, k186, D166) => (if k186 = 0 then (match fn_14 1 D166 with | none => none | some (y168, k184, D169) => (if k184 = 0 then (if y165 < y168 then fn_45_6 n (x1 + (y17 + y20)) (x2 + y26) (x3 + 1) D169 else (match fn_44 x3 3 D169 with | none => none | some (y172, k182, D173) => (if k182 = 0 then (if y172 ≤ 19 then some (0, D173) else (match fn_44 x3 3 D173 with | none => none | some (y176, k180, D177) => (if k180 = 0 then (if 25 ≤ y176 then some (0, D177) else fn_45_6 n (x1 + (y17 + y20)) (x2 + y26) (x3 + 1) D177) else none))) else none))) else none)) else none))) else none))) else none))) else none)) else none))) else none))) else none))) else none)))) else none)) else none)) else none)) else none)) else none))) else none))
set_option maxHeartbeats 2000000 in
theorem ev_45_6 : ∀ (n : Nat) (x1 x2 x3 : Int32) (D : am_DD) (y : Int32) (Z : am_DD), fn_45_6 n x1 x2 x3 D = some (y, Z) → ay_to 45 6 [some (.ref 0), some (.int x1), some (.int x2), some (.int x3), none, none, none, none] [] D (.inl (some (.int y))) Z := by
  intro n
  induction n with
  | zero => intro x1 x2 x3 D y Z h; cases h
  | succ n ih =>
    intro x1 x2 x3 D y Z h
    rw [fn_45_6] at h
    refine ay_t_loc (pc := 6) fe_45_6 rfl ?_
    refine ay_t_loc (pc := 7) fe_45_7 rfl ?_
    refine ay_t_stk (pc := 8) (S' := [.int 1, .ref 0, .int x3]) fe_45_8 rfl ?_
    cases hk3 : fn_14 1 D with
    | none => rw [hk3] at h; cases h
    | some z =>
      obtain ⟨y1, k212, D2⟩ := z
      rw [hk3] at h
      dsimp only at h
      by_cases hz213 : k212 = 0
      case neg => rw [if_neg hz213] at h; cases h
      rw [if_pos hz213] at h
      subst hz213
      refine ay_t_call (pc := 9) (w := some (.int y1)) fe_45_9 (ay_args [.ref 0, .int 1] [.int x3] rfl rfl (Nat.le_of_ble_eq_true rfl) (Nat.le_of_ble_eq_true rfl)) (ay_rcvV at_0 rfl) (ev_14 hk3) ?_
      by_cases hc4 : y1 ≤ x3
      · rw [if_pos hc4] at h
        refine ay_t_pos (pc := 12) hc4 fe_45_12 rfl ?_
        refine ay_t_loc (pc := 208) fe_45_208 rfl ?_
        refine ay_t_loc (pc := 209) fe_45_209 rfl ?_
        refine ay_t_stk (pc := 210) (S' := [.int 9, .ref 0, .int x1]) fe_45_210 rfl ?_
        cases hk7 : fn_14 9 D2 with
        | none => rw [hk7] at h; cases h
        | some z =>
          obtain ⟨y5, k15, D6⟩ := z
          rw [hk7] at h
          dsimp only at h
          by_cases hz16 : k15 = 0
          case neg => rw [if_neg hz16] at h; cases h
          rw [if_pos hz16] at h
          subst hz16
          refine ay_t_call (pc := 212) (w := some (.int y5)) fe_45_212 (ay_args [.ref 0, .int 9] [.int x1] rfl rfl (Nat.le_of_ble_eq_true rfl) (Nat.le_of_ble_eq_true rfl)) (ay_rcvV at_0 rfl) (ev_14 hk7) ?_
          by_cases hc8 : ¬ x1 = y5
          · rw [if_pos hc8] at h
            refine ay_t_pos (pc := 215) hc8 fe_45_215 rfl ?_
            refine ay_t_stk (pc := 231) (S' := [.int 0]) fe_45_231 rfl ?_
            cases h
            exact ay_t_iret fe_45_232 rfl rfl
          · rw [if_neg hc8] at h
            refine ay_t_neg (pc := 215) hc8 fe_45_215 rfl ?_
            refine ay_t_loc (pc := 218) fe_45_218 rfl ?_
            refine ay_t_loc (pc := 219) fe_45_219 rfl ?_
            refine ay_t_stk (pc := 220) (S' := [.int 3, .ref 0, .int x2]) fe_45_220 rfl ?_
            cases hk11 : fn_14 3 D6 with
            | none => rw [hk11] at h; cases h
            | some z =>
              obtain ⟨y9, k13, D10⟩ := z
              rw [hk11] at h
              dsimp only at h
              by_cases hz14 : k13 = 0
              case neg => rw [if_neg hz14] at h; cases h
              rw [if_pos hz14] at h
              subst hz14
              refine ay_t_call (pc := 221) (w := some (.int y9)) fe_45_221 (ay_args [.ref 0, .int 3] [.int x2] rfl rfl (Nat.le_of_ble_eq_true rfl) (Nat.le_of_ble_eq_true rfl)) (ay_rcvV at_0 rfl) (ev_14 hk11) ?_
              by_cases hc12 : ¬ x2 = y9
              · rw [if_pos hc12] at h
                refine ay_t_pos (pc := 224) hc12 fe_45_224 rfl ?_
                refine ay_t_stk (pc := 231) (S' := [.int 0]) fe_45_231 rfl ?_
                cases h
                exact ay_t_iret fe_45_232 rfl rfl
              · rw [if_neg hc12] at h
                refine ay_t_neg (pc := 224) hc12 fe_45_224 rfl ?_
                refine ay_t_stk (pc := 227) (S' := [.int 1]) fe_45_227 rfl ?_
                refine ay_t_br (pc := 228) (pc' := 232) fe_45_228 rfl ?_
                cases h
                exact ay_t_iret fe_45_232 rfl rfl
      · rw [if_neg hc4] at h
        refine ay_t_neg (pc := 12) hc4 fe_45_12 rfl ?_
        refine ay_t_loc (pc := 15) fe_45_15 rfl ?_
        refine ay_t_loc (pc := 16) fe_45_16 rfl ?_
        refine ay_t_stk (pc := 17) (S' := [.int 4, .int x3, .ref 0]) fe_45_17 rfl ?_
        cases hk19 : fn_44 x3 4 D2 with
        | none => rw [hk19] at h; cases h
        | some z =>
          obtain ⟨y17, k210, D18⟩ := z
          rw [hk19] at h
          dsimp only at h
          by_cases hz211 : k210 = 0
          case neg => rw [if_neg hz211] at h; cases h
          rw [if_pos hz211] at h
          subst hz211
          refine ay_t_call (pc := 18) (w := some (.int y17)) fe_45_18 (ay_args [.ref 0, .int x3, .int 4] [] rfl rfl (Nat.le_of_ble_eq_true rfl) (Nat.le_of_ble_eq_true rfl)) (ay_rcvV at_0 rfl) (ev_44 hk19) ?_
          refine ay_t_loc (pc := 21) (L' := [some (.ref 0), some (.int x1), some (.int x2), some (.int x3), some (.int y17), none, none, none]) fe_45_21 rfl ?_
          refine ay_t_loc (pc := 23) fe_45_23 rfl ?_
          refine ay_t_loc (pc := 24) fe_45_24 rfl ?_
          refine ay_t_stk (pc := 25) (S' := [.int 5, .int x3, .ref 0]) fe_45_25 rfl ?_
          cases hk22 : fn_44 x3 5 D18 with
          | none => rw [hk22] at h; cases h
          | some z =>
            obtain ⟨y20, k208, D21⟩ := z
            rw [hk22] at h
            dsimp only at h
            by_cases hz209 : k208 = 0
            case neg => rw [if_neg hz209] at h; cases h
            rw [if_pos hz209] at h
            subst hz209
            refine ay_t_call (pc := 26) (w := some (.int y20)) fe_45_26 (ay_args [.ref 0, .int x3, .int 5] [] rfl rfl (Nat.le_of_ble_eq_true rfl) (Nat.le_of_ble_eq_true rfl)) (ay_rcvV at_0 rfl) (ev_44 hk22) ?_
            refine ay_t_loc (pc := 29) (L' := [some (.ref 0), some (.int x1), some (.int x2), some (.int x3), some (.int y17), some (.int y20), none, none]) fe_45_29 rfl ?_
            refine ay_t_loc (pc := 31) fe_45_31 rfl ?_
            refine ay_t_loc (pc := 32) fe_45_32 rfl ?_
            refine ay_t_stk (pc := 33) (S' := [.int 7, .int x3, .ref 0]) fe_45_33 rfl ?_
            cases hk25 : fn_44 x3 7 D21 with
            | none => rw [hk25] at h; cases h
            | some z =>
              obtain ⟨y23, k206, D24⟩ := z
              rw [hk25] at h
              dsimp only at h
              by_cases hz207 : k206 = 0
              case neg => rw [if_neg hz207] at h; cases h
              rw [if_pos hz207] at h
              subst hz207
              refine ay_t_call (pc := 35) (w := some (.int y23)) fe_45_35 (ay_args [.ref 0, .int x3, .int 7] [] rfl rfl (Nat.le_of_ble_eq_true rfl) (Nat.le_of_ble_eq_true rfl)) (ay_rcvV at_0 rfl) (ev_44 hk25) ?_
              refine ay_t_loc (pc := 38) (L' := [some (.ref 0), some (.int x1), some (.int x2), some (.int x3), some (.int y17), some (.int y20), some (.int y23), none]) fe_45_38 rfl ?_
              refine ay_t_loc (pc := 40) fe_45_40 rfl ?_
              refine ay_t_loc (pc := 41) fe_45_41 rfl ?_
              refine ay_t_loc (pc := 43) fe_45_43 rfl ?_
              refine ay_t_stk (pc := 45) (S' := [.int (y17 + y20), .int x1]) fe_45_45 rfl ?_
              refine ay_t_stk (pc := 46) (S' := [.int (x1 + (y17 + y20))]) fe_45_46 rfl ?_
              refine ay_t_loc (pc := 47) (L' := [some (.ref 0), some (.int (x1 + (y17 + y20))), some (.int x2), some (.int x3), some (.int y17), some (.int y20), some (.int y23), none]) fe_45_47 rfl ?_
              refine ay_t_loc (pc := 48) fe_45_48 rfl ?_
              refine ay_t_loc (pc := 49) fe_45_49 rfl ?_
              refine ay_t_loc (pc := 50) fe_45_50 rfl ?_
              refine ay_t_stk (pc := 51) (S' := [.int 6, .int x3, .ref 0, .int x2]) fe_45_51 rfl ?_
              cases hk28 : fn_44 x3 6 D24 with
              | none => rw [hk28] at h; cases h
              | some z =>
                obtain ⟨y26, k204, D27⟩ := z
                rw [hk28] at h
                dsimp only at h
                by_cases hz205 : k204 = 0
                case neg => rw [if_neg hz205] at h; cases h
                rw [if_pos hz205] at h
                subst hz205
                refine ay_t_call (pc := 53) (w := some (.int y26)) fe_45_53 (ay_args [.ref 0, .int x3, .int 6] [.int x2] rfl rfl (Nat.le_of_ble_eq_true rfl) (Nat.le_of_ble_eq_true rfl)) (ay_rcvV at_0 rfl) (ev_44 hk28) ?_
                refine ay_t_stk (pc := 56) (S' := [.int (x2 + y26)]) fe_45_56 rfl ?_
                refine ay_t_loc (pc := 57) (L' := [some (.ref 0), some (.int (x1 + (y17 + y20))), some (.int (x2 + y26)), some (.int x3), some (.int y17), some (.int y20), some (.int y23), none]) fe_45_57 rfl ?_
                refine ay_t_loc (pc := 58) fe_45_58 rfl ?_
                refine ay_t_loc (pc := 59) fe_45_59 rfl ?_
                refine ay_t_stk (pc := 60) (S' := [.int 0, .int x3, .ref 0]) fe_45_60 rfl ?_
                cases hk31 : fn_44 x3 0 D27 with
                | none => rw [hk31] at h; cases h
                | some z =>
                  obtain ⟨y29, k202, D30⟩ := z
                  rw [hk31] at h
                  dsimp only at h
                  by_cases hz203 : k202 = 0
                  case neg => rw [if_neg hz203] at h; cases h
                  rw [if_pos hz203] at h
                  subst hz203
                  refine ay_t_call (pc := 61) (w := some (.int y29)) fe_45_61 (ay_args [.ref 0, .int x3, .int 0] [] rfl rfl (Nat.le_of_ble_eq_true rfl) (Nat.le_of_ble_eq_true rfl)) (ay_rcvV at_0 rfl) (ev_44 hk31) ?_
                  refine ay_t_loc (pc := 64) fe_45_64 rfl ?_
                  refine ay_t_loc (pc := 66) fe_45_66 rfl ?_
                  refine ay_t_stk (pc := 68) (S' := [.int (y17 + y20), .int y29]) fe_45_68 rfl ?_
                  refine ay_t_loc (pc := 69) fe_45_69 rfl ?_
                  refine ay_t_stk (pc := 71) (S' := [.int ((y17 + y20) + y23), .int y29]) fe_45_71 rfl ?_
                  refine ay_t_stk (pc := 72) (S' := [.int 2, .int ((y17 + y20) + y23), .int y29]) fe_45_72 rfl ?_
                  refine ay_t_stk (pc := 73) (S' := [.int (((y17 + y20) + y23) - ((y17 + y20) + y23) / 2 * 2), .int y29]) fe_45_73 (ay_irem (by decide)) ?_
                  by_cases hc32 : ¬ y29 = (((y17 + y20) + y23) - ((y17 + y20) + y23) / 2 * 2)
                  · rw [if_pos hc32] at h
                    refine ay_t_pos (pc := 74) hc32 fe_45_74 rfl ?_
                    refine ay_t_stk (pc := 192) (S' := [.int 0]) fe_45_192 rfl ?_
                    refine ay_t_loc (pc := 193) (L' := [some (.ref 0), some (.int (x1 + (y17 + y20))), some (.int (x2 + y26)), some (.int x3), some (.int y17), some (.int y20), some (.int y23), some (.int 0)]) fe_45_193 rfl ?_
                    refine ay_t_loc (pc := 195) fe_45_195 rfl ?_
                    refine ay_t_br (pc := 197) (pc' := 200) fe_45_197 rfl ?_
                    refine ay_t_stk (pc := 200) (S' := [.int 0]) fe_45_200 rfl ?_
                    cases h
                    exact ay_t_iret fe_45_201 rfl rfl
                  · rw [if_neg hc32] at h
                    refine ay_t_neg (pc := 74) hc32 fe_45_74 rfl ?_
                    refine ay_t_loc (pc := 77) fe_45_77 rfl ?_
                    by_cases hc33 : 0 < y23
                    · rw [if_pos hc33] at h
                      refine ay_t_pos (pc := 79) hc33 fe_45_79 rfl ?_
                      refine ay_t_loc (pc := 96) fe_45_96 rfl ?_
                      refine ay_t_loc (pc := 97) fe_45_97 rfl ?_
                      refine ay_t_stk (pc := 98) (S' := [.int 2, .int x3, .ref 0]) fe_45_98 rfl ?_
                      cases hk36 : fn_44 x3 2 D30 with
                      | none => rw [hk36] at h; cases h
                      | some z =>
                        obtain ⟨y34, k113, D35⟩ := z
                        rw [hk36] at h
                        dsimp only at h
                        by_cases hz114 : k113 = 0
                        case neg => rw [if_neg hz114] at h; cases h
                        rw [if_pos hz114] at h
                        subst hz114
                        refine ay_t_call (pc := 99) (w := some (.int y34)) fe_45_99 (ay_args [.ref 0, .int x3, .int 2] [] rfl rfl (Nat.le_of_ble_eq_true rfl) (Nat.le_of_ble_eq_true rfl)) (ay_rcvV at_0 rfl) (ev_44 hk36) ?_
                        refine ay_t_loc (pc := 102) fe_45_102 rfl ?_
                        by_cases hc37 : y34 ≤ x3
                        · rw [if_pos hc37] at h
                          refine ay_t_pos (pc := 103) hc37 fe_45_103 rfl ?_
                          refine ay_t_stk (pc := 192) (S' := [.int 0]) fe_45_192 rfl ?_
                          refine ay_t_loc (pc := 193) (L' := [some (.ref 0), some (.int (x1 + (y17 + y20))), some (.int (x2 + y26)), some (.int x3), some (.int y17), some (.int y20), some (.int y23), some (.int 0)]) fe_45_193 rfl ?_
                          refine ay_t_loc (pc := 195) fe_45_195 rfl ?_
                          refine ay_t_br (pc := 197) (pc' := 200) fe_45_197 rfl ?_
                          refine ay_t_stk (pc := 200) (S' := [.int 0]) fe_45_200 rfl ?_
                          cases h
                          exact ay_t_iret fe_45_201 rfl rfl
                        · rw [if_neg hc37] at h
                          refine ay_t_neg (pc := 103) hc37 fe_45_103 rfl ?_
                          refine ay_t_loc (pc := 106) fe_45_106 rfl ?_
                          refine ay_t_loc (pc := 107) fe_45_107 rfl ?_
                          refine ay_t_stk (pc := 108) (S' := [.int 3, .int x3, .ref 0]) fe_45_108 rfl ?_
                          cases hk40 : fn_44 x3 3 D35 with
                          | none => rw [hk40] at h; cases h
                          | some z =>
                            obtain ⟨y38, k111, D39⟩ := z
                            rw [hk40] at h
                            dsimp only at h
                            by_cases hz112 : k111 = 0
                            case neg => rw [if_neg hz112] at h; cases h
                            rw [if_pos hz112] at h
                            subst hz112
                            refine ay_t_call (pc := 109) (w := some (.int y38)) fe_45_109 (ay_args [.ref 0, .int x3, .int 3] [] rfl rfl (Nat.le_of_ble_eq_true rfl) (Nat.le_of_ble_eq_true rfl)) (ay_rcvV at_0 rfl) (ev_44 hk40) ?_
                            refine ay_t_loc (pc := 112) fe_45_112 rfl ?_
                            by_cases hc41 : y38 ≤ x3
                            · rw [if_pos hc41] at h
                              refine ay_t_pos (pc := 113) hc41 fe_45_113 rfl ?_
                              refine ay_t_stk (pc := 192) (S' := [.int 0]) fe_45_192 rfl ?_
                              refine ay_t_loc (pc := 193) (L' := [some (.ref 0), some (.int (x1 + (y17 + y20))), some (.int (x2 + y26)), some (.int x3), some (.int y17), some (.int y20), some (.int y23), some (.int 0)]) fe_45_193 rfl ?_
                              refine ay_t_loc (pc := 195) fe_45_195 rfl ?_
                              refine ay_t_br (pc := 197) (pc' := 200) fe_45_197 rfl ?_
                              refine ay_t_stk (pc := 200) (S' := [.int 0]) fe_45_200 rfl ?_
                              cases h
                              exact ay_t_iret fe_45_201 rfl rfl
                            · rw [if_neg hc41] at h
                              refine ay_t_neg (pc := 113) hc41 fe_45_113 rfl ?_
                              refine ay_t_loc (pc := 116) fe_45_116 rfl ?_
                              refine ay_t_loc (pc := 117) fe_45_117 rfl ?_
                              refine ay_t_stk (pc := 118) (S' := [.int 2, .int x3, .ref 0]) fe_45_118 rfl ?_
                              cases hk44 : fn_44 x3 2 D39 with
                              | none => rw [hk44] at h; cases h
                              | some z =>
                                obtain ⟨y42, k109, D43⟩ := z
                                rw [hk44] at h
                                dsimp only at h
                                by_cases hz110 : k109 = 0
                                case neg => rw [if_neg hz110] at h; cases h
                                rw [if_pos hz110] at h
                                subst hz110
                                refine ay_t_call (pc := 119) (w := some (.int y42)) fe_45_119 (ay_args [.ref 0, .int x3, .int 2] [] rfl rfl (Nat.le_of_ble_eq_true rfl) (Nat.le_of_ble_eq_true rfl)) (ay_rcvV at_0 rfl) (ev_44 hk44) ?_
                                refine ay_t_loc (pc := 122) fe_45_122 rfl ?_
                                refine ay_t_stk (pc := 123) (S' := [.int 1, .ref 0, .int y42]) fe_45_123 rfl ?_
                                cases hk47 : fn_14 1 D43 with
                                | none => rw [hk47] at h; cases h
                                | some z =>
                                  obtain ⟨y45, k107, D46⟩ := z
                                  rw [hk47] at h
                                  dsimp only at h
                                  by_cases hz108 : k107 = 0
                                  case neg => rw [if_neg hz108] at h; cases h
                                  rw [if_pos hz108] at h
                                  subst hz108
                                  refine ay_t_call (pc := 124) (w := some (.int y45)) fe_45_124 (ay_args [.ref 0, .int 1] [.int y42] rfl rfl (Nat.le_of_ble_eq_true rfl) (Nat.le_of_ble_eq_true rfl)) (ay_rcvV at_0 rfl) (ev_14 hk47) ?_
                                  by_cases hc48 : y42 < y45
                                  · rw [if_pos hc48] at h
                                    refine ay_t_pos (pc := 127) hc48 fe_45_127 rfl ?_
                                    refine ay_t_loc (pc := 152) fe_45_152 rfl ?_
                                    refine ay_t_loc (pc := 153) fe_45_153 rfl ?_
                                    refine ay_t_stk (pc := 154) (S' := [.int 3, .int x3, .ref 0]) fe_45_154 rfl ?_
                                    cases hk51 : fn_44 x3 3 D46 with
                                    | none => rw [hk51] at h; cases h
                                    | some z =>
                                      obtain ⟨y49, k70, D50⟩ := z
                                      rw [hk51] at h
                                      dsimp only at h
                                      by_cases hz71 : k70 = 0
                                      case neg => rw [if_neg hz71] at h; cases h
                                      rw [if_pos hz71] at h
                                      subst hz71
                                      refine ay_t_call (pc := 155) (w := some (.int y49)) fe_45_155 (ay_args [.ref 0, .int x3, .int 3] [] rfl rfl (Nat.le_of_ble_eq_true rfl) (Nat.le_of_ble_eq_true rfl)) (ay_rcvV at_0 rfl) (ev_44 hk51) ?_
                                      refine ay_t_loc (pc := 158) fe_45_158 rfl ?_
                                      refine ay_t_stk (pc := 159) (S' := [.int 1, .ref 0, .int y49]) fe_45_159 rfl ?_
                                      cases hk54 : fn_14 1 D50 with
                                      | none => rw [hk54] at h; cases h
                                      | some z =>
                                        obtain ⟨y52, k68, D53⟩ := z
                                        rw [hk54] at h
                                        dsimp only at h
                                        by_cases hz69 : k68 = 0
                                        case neg => rw [if_neg hz69] at h; cases h
                                        rw [if_pos hz69] at h
                                        subst hz69
                                        refine ay_t_call (pc := 160) (w := some (.int y52)) fe_45_160 (ay_args [.ref 0, .int 1] [.int y49] rfl rfl (Nat.le_of_ble_eq_true rfl) (Nat.le_of_ble_eq_true rfl)) (ay_rcvV at_0 rfl) (ev_14 hk54) ?_
                                        by_cases hc55 : y49 < y52
                                        · rw [if_pos hc55] at h
                                          refine ay_t_pos (pc := 163) hc55 fe_45_163 rfl ?_
                                          refine ay_t_stk (pc := 188) (S' := [.int 1]) fe_45_188 rfl ?_
                                          refine ay_t_br (pc := 189) (pc' := 193) fe_45_189 rfl ?_
                                          refine ay_t_loc (pc := 193) (L' := [some (.ref 0), some (.int (x1 + (y17 + y20))), some (.int (x2 + y26)), some (.int x3), some (.int y17), some (.int y20), some (.int y23), some (.int 1)]) fe_45_193 rfl ?_
                                          refine ay_t_loc (pc := 195) fe_45_195 rfl ?_
                                          refine ay_t_br (pc := 197) (pc' := 202) fe_45_197 rfl ?_
                                          refine ay_t_loc (pc := 202) (L' := [some (.ref 0), some (.int (x1 + (y17 + y20))), some (.int (x2 + y26)), some (.int (x3 + 1)), some (.int y17), some (.int y20), some (.int y23), some (.int 1)]) fe_45_202 rfl ?_
                                          refine ay_t_br (pc := 205) (pc' := 6) fe_45_205 rfl ?_
                                          exact ay_t_less (ay_ls (ay_ls (ay_ls (ay_ls (ay_ln (ay_ln (ay_ln (ay_ln ay_l0)))))))) (ih _ _ _ _ _ _ h)
                                        · rw [if_neg hc55] at h
                                          refine ay_t_neg (pc := 163) hc55 fe_45_163 rfl ?_
                                          refine ay_t_loc (pc := 166) fe_45_166 rfl ?_
                                          refine ay_t_loc (pc := 167) fe_45_167 rfl ?_
                                          refine ay_t_stk (pc := 168) (S' := [.int 3, .int x3, .ref 0]) fe_45_168 rfl ?_
                                          cases hk58 : fn_44 x3 3 D53 with
                                          | none => rw [hk58] at h; cases h
                                          | some z =>
                                            obtain ⟨y56, k66, D57⟩ := z
                                            rw [hk58] at h
                                            dsimp only at h
                                            by_cases hz67 : k66 = 0
                                            case neg => rw [if_neg hz67] at h; cases h
                                            rw [if_pos hz67] at h
                                            subst hz67
                                            refine ay_t_call (pc := 169) (w := some (.int y56)) fe_45_169 (ay_args [.ref 0, .int x3, .int 3] [] rfl rfl (Nat.le_of_ble_eq_true rfl) (Nat.le_of_ble_eq_true rfl)) (ay_rcvV at_0 rfl) (ev_44 hk58) ?_
                                            refine ay_t_stk (pc := 172) (S' := [.int 19, .int y56]) fe_45_172 rfl ?_
                                            by_cases hc59 : y56 ≤ 19
                                            · rw [if_pos hc59] at h
                                              refine ay_t_pos (pc := 174) hc59 fe_45_174 rfl ?_
                                              refine ay_t_stk (pc := 192) (S' := [.int 0]) fe_45_192 rfl ?_
                                              refine ay_t_loc (pc := 193) (L' := [some (.ref 0), some (.int (x1 + (y17 + y20))), some (.int (x2 + y26)), some (.int x3), some (.int y17), some (.int y20), some (.int y23), some (.int 0)]) fe_45_193 rfl ?_
                                              refine ay_t_loc (pc := 195) fe_45_195 rfl ?_
                                              refine ay_t_br (pc := 197) (pc' := 200) fe_45_197 rfl ?_
                                              refine ay_t_stk (pc := 200) (S' := [.int 0]) fe_45_200 rfl ?_
                                              cases h
                                              exact ay_t_iret fe_45_201 rfl rfl
                                            · rw [if_neg hc59] at h
                                              refine ay_t_neg (pc := 174) hc59 fe_45_174 rfl ?_
                                              refine ay_t_loc (pc := 177) fe_45_177 rfl ?_
                                              refine ay_t_loc (pc := 178) fe_45_178 rfl ?_
                                              refine ay_t_stk (pc := 179) (S' := [.int 3, .int x3, .ref 0]) fe_45_179 rfl ?_
                                              cases hk62 : fn_44 x3 3 D57 with
                                              | none => rw [hk62] at h; cases h
                                              | some z =>
                                                obtain ⟨y60, k64, D61⟩ := z
                                                rw [hk62] at h
                                                dsimp only at h
                                                by_cases hz65 : k64 = 0
                                                case neg => rw [if_neg hz65] at h; cases h
                                                rw [if_pos hz65] at h
                                                subst hz65
                                                refine ay_t_call (pc := 180) (w := some (.int y60)) fe_45_180 (ay_args [.ref 0, .int x3, .int 3] [] rfl rfl (Nat.le_of_ble_eq_true rfl) (Nat.le_of_ble_eq_true rfl)) (ay_rcvV at_0 rfl) (ev_44 hk62) ?_
                                                refine ay_t_stk (pc := 183) (S' := [.int 25, .int y60]) fe_45_183 rfl ?_
                                                by_cases hc63 : 25 ≤ y60
                                                · rw [if_pos hc63] at h
                                                  refine ay_t_pos (pc := 185) hc63 fe_45_185 rfl ?_
                                                  refine ay_t_stk (pc := 192) (S' := [.int 0]) fe_45_192 rfl ?_
                                                  refine ay_t_loc (pc := 193) (L' := [some (.ref 0), some (.int (x1 + (y17 + y20))), some (.int (x2 + y26)), some (.int x3), some (.int y17), some (.int y20), some (.int y23), some (.int 0)]) fe_45_193 rfl ?_
                                                  refine ay_t_loc (pc := 195) fe_45_195 rfl ?_
                                                  refine ay_t_br (pc := 197) (pc' := 200) fe_45_197 rfl ?_
                                                  refine ay_t_stk (pc := 200) (S' := [.int 0]) fe_45_200 rfl ?_
                                                  cases h
                                                  exact ay_t_iret fe_45_201 rfl rfl
                                                · rw [if_neg hc63] at h
                                                  refine ay_t_neg (pc := 185) hc63 fe_45_185 rfl ?_
                                                  refine ay_t_stk (pc := 188) (S' := [.int 1]) fe_45_188 rfl ?_
                                                  refine ay_t_br (pc := 189) (pc' := 193) fe_45_189 rfl ?_
                                                  refine ay_t_loc (pc := 193) (L' := [some (.ref 0), some (.int (x1 + (y17 + y20))), some (.int (x2 + y26)), some (.int x3), some (.int y17), some (.int y20), some (.int y23), some (.int 1)]) fe_45_193 rfl ?_
                                                  refine ay_t_loc (pc := 195) fe_45_195 rfl ?_
                                                  refine ay_t_br (pc := 197) (pc' := 202) fe_45_197 rfl ?_
                                                  refine ay_t_loc (pc := 202) (L' := [some (.ref 0), some (.int (x1 + (y17 + y20))), some (.int (x2 + y26)), some (.int (x3 + 1)), some (.int y17), some (.int y20), some (.int y23), some (.int 1)]) fe_45_202 rfl ?_
                                                  refine ay_t_br (pc := 205) (pc' := 6) fe_45_205 rfl ?_
                                                  exact ay_t_less (ay_ls (ay_ls (ay_ls (ay_ls (ay_ln (ay_ln (ay_ln (ay_ln ay_l0)))))))) (ih _ _ _ _ _ _ h)
                                  · rw [if_neg hc48] at h
                                    refine ay_t_neg (pc := 127) hc48 fe_45_127 rfl ?_
                                    refine ay_t_loc (pc := 130) fe_45_130 rfl ?_
                                    refine ay_t_loc (pc := 131) fe_45_131 rfl ?_
                                    refine ay_t_stk (pc := 132) (S' := [.int 2, .int x3, .ref 0]) fe_45_132 rfl ?_
                                    cases hk74 : fn_44 x3 2 D46 with
                                    | none => rw [hk74] at h; cases h
                                    | some z =>
                                      obtain ⟨y72, k105, D73⟩ := z
                                      rw [hk74] at h
                                      dsimp only at h
                                      by_cases hz106 : k105 = 0
                                      case neg => rw [if_neg hz106] at h; cases h
                                      rw [if_pos hz106] at h
                                      subst hz106
                                      refine ay_t_call (pc := 133) (w := some (.int y72)) fe_45_133 (ay_args [.ref 0, .int x3, .int 2] [] rfl rfl (Nat.le_of_ble_eq_true rfl) (Nat.le_of_ble_eq_true rfl)) (ay_rcvV at_0 rfl) (ev_44 hk74) ?_
                                      refine ay_t_stk (pc := 136) (S' := [.int 19, .int y72]) fe_45_136 rfl ?_
                                      by_cases hc75 : y72 ≤ 19
                                      · rw [if_pos hc75] at h
                                        refine ay_t_pos (pc := 138) hc75 fe_45_138 rfl ?_
                                        refine ay_t_stk (pc := 192) (S' := [.int 0]) fe_45_192 rfl ?_
                                        refine ay_t_loc (pc := 193) (L' := [some (.ref 0), some (.int (x1 + (y17 + y20))), some (.int (x2 + y26)), some (.int x3), some (.int y17), some (.int y20), some (.int y23), some (.int 0)]) fe_45_193 rfl ?_
                                        refine ay_t_loc (pc := 195) fe_45_195 rfl ?_
                                        refine ay_t_br (pc := 197) (pc' := 200) fe_45_197 rfl ?_
                                        refine ay_t_stk (pc := 200) (S' := [.int 0]) fe_45_200 rfl ?_
                                        cases h
                                        exact ay_t_iret fe_45_201 rfl rfl
                                      · rw [if_neg hc75] at h
                                        refine ay_t_neg (pc := 138) hc75 fe_45_138 rfl ?_
                                        refine ay_t_loc (pc := 141) fe_45_141 rfl ?_
                                        refine ay_t_loc (pc := 142) fe_45_142 rfl ?_
                                        refine ay_t_stk (pc := 143) (S' := [.int 2, .int x3, .ref 0]) fe_45_143 rfl ?_
                                        cases hk78 : fn_44 x3 2 D73 with
                                        | none => rw [hk78] at h; cases h
                                        | some z =>
                                          obtain ⟨y76, k103, D77⟩ := z
                                          rw [hk78] at h
                                          dsimp only at h
                                          by_cases hz104 : k103 = 0
                                          case neg => rw [if_neg hz104] at h; cases h
                                          rw [if_pos hz104] at h
                                          subst hz104
                                          refine ay_t_call (pc := 144) (w := some (.int y76)) fe_45_144 (ay_args [.ref 0, .int x3, .int 2] [] rfl rfl (Nat.le_of_ble_eq_true rfl) (Nat.le_of_ble_eq_true rfl)) (ay_rcvV at_0 rfl) (ev_44 hk78) ?_
                                          refine ay_t_stk (pc := 147) (S' := [.int 25, .int y76]) fe_45_147 rfl ?_
                                          by_cases hc79 : 25 ≤ y76
                                          · rw [if_pos hc79] at h
                                            refine ay_t_pos (pc := 149) hc79 fe_45_149 rfl ?_
                                            refine ay_t_stk (pc := 192) (S' := [.int 0]) fe_45_192 rfl ?_
                                            refine ay_t_loc (pc := 193) (L' := [some (.ref 0), some (.int (x1 + (y17 + y20))), some (.int (x2 + y26)), some (.int x3), some (.int y17), some (.int y20), some (.int y23), some (.int 0)]) fe_45_193 rfl ?_
                                            refine ay_t_loc (pc := 195) fe_45_195 rfl ?_
                                            refine ay_t_br (pc := 197) (pc' := 200) fe_45_197 rfl ?_
                                            refine ay_t_stk (pc := 200) (S' := [.int 0]) fe_45_200 rfl ?_
                                            cases h
                                            exact ay_t_iret fe_45_201 rfl rfl
                                          · rw [if_neg hc79] at h
                                            refine ay_t_neg (pc := 149) hc79 fe_45_149 rfl ?_
                                            refine ay_t_loc (pc := 152) fe_45_152 rfl ?_
                                            refine ay_t_loc (pc := 153) fe_45_153 rfl ?_
                                            refine ay_t_stk (pc := 154) (S' := [.int 3, .int x3, .ref 0]) fe_45_154 rfl ?_
                                            cases hk82 : fn_44 x3 3 D77 with
                                            | none => rw [hk82] at h; cases h
                                            | some z =>
                                              obtain ⟨y80, k101, D81⟩ := z
                                              rw [hk82] at h
                                              dsimp only at h
                                              by_cases hz102 : k101 = 0
                                              case neg => rw [if_neg hz102] at h; cases h
                                              rw [if_pos hz102] at h
                                              subst hz102
                                              refine ay_t_call (pc := 155) (w := some (.int y80)) fe_45_155 (ay_args [.ref 0, .int x3, .int 3] [] rfl rfl (Nat.le_of_ble_eq_true rfl) (Nat.le_of_ble_eq_true rfl)) (ay_rcvV at_0 rfl) (ev_44 hk82) ?_
                                              refine ay_t_loc (pc := 158) fe_45_158 rfl ?_
                                              refine ay_t_stk (pc := 159) (S' := [.int 1, .ref 0, .int y80]) fe_45_159 rfl ?_
                                              cases hk85 : fn_14 1 D81 with
                                              | none => rw [hk85] at h; cases h
                                              | some z =>
                                                obtain ⟨y83, k99, D84⟩ := z
                                                rw [hk85] at h
                                                dsimp only at h
                                                by_cases hz100 : k99 = 0
                                                case neg => rw [if_neg hz100] at h; cases h
                                                rw [if_pos hz100] at h
                                                subst hz100
                                                refine ay_t_call (pc := 160) (w := some (.int y83)) fe_45_160 (ay_args [.ref 0, .int 1] [.int y80] rfl rfl (Nat.le_of_ble_eq_true rfl) (Nat.le_of_ble_eq_true rfl)) (ay_rcvV at_0 rfl) (ev_14 hk85) ?_
                                                by_cases hc86 : y80 < y83
                                                · rw [if_pos hc86] at h
                                                  refine ay_t_pos (pc := 163) hc86 fe_45_163 rfl ?_
                                                  refine ay_t_stk (pc := 188) (S' := [.int 1]) fe_45_188 rfl ?_
                                                  refine ay_t_br (pc := 189) (pc' := 193) fe_45_189 rfl ?_
                                                  refine ay_t_loc (pc := 193) (L' := [some (.ref 0), some (.int (x1 + (y17 + y20))), some (.int (x2 + y26)), some (.int x3), some (.int y17), some (.int y20), some (.int y23), some (.int 1)]) fe_45_193 rfl ?_
                                                  refine ay_t_loc (pc := 195) fe_45_195 rfl ?_
                                                  refine ay_t_br (pc := 197) (pc' := 202) fe_45_197 rfl ?_
                                                  refine ay_t_loc (pc := 202) (L' := [some (.ref 0), some (.int (x1 + (y17 + y20))), some (.int (x2 + y26)), some (.int (x3 + 1)), some (.int y17), some (.int y20), some (.int y23), some (.int 1)]) fe_45_202 rfl ?_
                                                  refine ay_t_br (pc := 205) (pc' := 6) fe_45_205 rfl ?_
                                                  exact ay_t_less (ay_ls (ay_ls (ay_ls (ay_ls (ay_ln (ay_ln (ay_ln (ay_ln ay_l0)))))))) (ih _ _ _ _ _ _ h)
                                                · rw [if_neg hc86] at h
                                                  refine ay_t_neg (pc := 163) hc86 fe_45_163 rfl ?_
                                                  refine ay_t_loc (pc := 166) fe_45_166 rfl ?_
                                                  refine ay_t_loc (pc := 167) fe_45_167 rfl ?_
                                                  refine ay_t_stk (pc := 168) (S' := [.int 3, .int x3, .ref 0]) fe_45_168 rfl ?_
                                                  cases hk89 : fn_44 x3 3 D84 with
                                                  | none => rw [hk89] at h; cases h
                                                  | some z =>
                                                    obtain ⟨y87, k97, D88⟩ := z
                                                    rw [hk89] at h
                                                    dsimp only at h
                                                    by_cases hz98 : k97 = 0
                                                    case neg => rw [if_neg hz98] at h; cases h
                                                    rw [if_pos hz98] at h
                                                    subst hz98
                                                    refine ay_t_call (pc := 169) (w := some (.int y87)) fe_45_169 (ay_args [.ref 0, .int x3, .int 3] [] rfl rfl (Nat.le_of_ble_eq_true rfl) (Nat.le_of_ble_eq_true rfl)) (ay_rcvV at_0 rfl) (ev_44 hk89) ?_
                                                    refine ay_t_stk (pc := 172) (S' := [.int 19, .int y87]) fe_45_172 rfl ?_
                                                    by_cases hc90 : y87 ≤ 19
                                                    · rw [if_pos hc90] at h
                                                      refine ay_t_pos (pc := 174) hc90 fe_45_174 rfl ?_
                                                      refine ay_t_stk (pc := 192) (S' := [.int 0]) fe_45_192 rfl ?_
                                                      refine ay_t_loc (pc := 193) (L' := [some (.ref 0), some (.int (x1 + (y17 + y20))), some (.int (x2 + y26)), some (.int x3), some (.int y17), some (.int y20), some (.int y23), some (.int 0)]) fe_45_193 rfl ?_
                                                      refine ay_t_loc (pc := 195) fe_45_195 rfl ?_
                                                      refine ay_t_br (pc := 197) (pc' := 200) fe_45_197 rfl ?_
                                                      refine ay_t_stk (pc := 200) (S' := [.int 0]) fe_45_200 rfl ?_
                                                      cases h
                                                      exact ay_t_iret fe_45_201 rfl rfl
                                                    · rw [if_neg hc90] at h
                                                      refine ay_t_neg (pc := 174) hc90 fe_45_174 rfl ?_
                                                      refine ay_t_loc (pc := 177) fe_45_177 rfl ?_
                                                      refine ay_t_loc (pc := 178) fe_45_178 rfl ?_
                                                      refine ay_t_stk (pc := 179) (S' := [.int 3, .int x3, .ref 0]) fe_45_179 rfl ?_
                                                      cases hk93 : fn_44 x3 3 D88 with
                                                      | none => rw [hk93] at h; cases h
                                                      | some z =>
                                                        obtain ⟨y91, k95, D92⟩ := z
                                                        rw [hk93] at h
                                                        dsimp only at h
                                                        by_cases hz96 : k95 = 0
                                                        case neg => rw [if_neg hz96] at h; cases h
                                                        rw [if_pos hz96] at h
                                                        subst hz96
                                                        refine ay_t_call (pc := 180) (w := some (.int y91)) fe_45_180 (ay_args [.ref 0, .int x3, .int 3] [] rfl rfl (Nat.le_of_ble_eq_true rfl) (Nat.le_of_ble_eq_true rfl)) (ay_rcvV at_0 rfl) (ev_44 hk93) ?_
                                                        refine ay_t_stk (pc := 183) (S' := [.int 25, .int y91]) fe_45_183 rfl ?_
                                                        by_cases hc94 : 25 ≤ y91
                                                        · rw [if_pos hc94] at h
                                                          refine ay_t_pos (pc := 185) hc94 fe_45_185 rfl ?_
                                                          refine ay_t_stk (pc := 192) (S' := [.int 0]) fe_45_192 rfl ?_
                                                          refine ay_t_loc (pc := 193) (L' := [some (.ref 0), some (.int (x1 + (y17 + y20))), some (.int (x2 + y26)), some (.int x3), some (.int y17), some (.int y20), some (.int y23), some (.int 0)]) fe_45_193 rfl ?_
                                                          refine ay_t_loc (pc := 195) fe_45_195 rfl ?_
                                                          refine ay_t_br (pc := 197) (pc' := 200) fe_45_197 rfl ?_
                                                          refine ay_t_stk (pc := 200) (S' := [.int 0]) fe_45_200 rfl ?_
                                                          cases h
                                                          exact ay_t_iret fe_45_201 rfl rfl
                                                        · rw [if_neg hc94] at h
                                                          refine ay_t_neg (pc := 185) hc94 fe_45_185 rfl ?_
                                                          refine ay_t_stk (pc := 188) (S' := [.int 1]) fe_45_188 rfl ?_
                                                          refine ay_t_br (pc := 189) (pc' := 193) fe_45_189 rfl ?_
                                                          refine ay_t_loc (pc := 193) (L' := [some (.ref 0), some (.int (x1 + (y17 + y20))), some (.int (x2 + y26)), some (.int x3), some (.int y17), some (.int y20), some (.int y23), some (.int 1)]) fe_45_193 rfl ?_
                                                          refine ay_t_loc (pc := 195) fe_45_195 rfl ?_
                                                          refine ay_t_br (pc := 197) (pc' := 202) fe_45_197 rfl ?_
                                                          refine ay_t_loc (pc := 202) (L' := [some (.ref 0), some (.int (x1 + (y17 + y20))), some (.int (x2 + y26)), some (.int (x3 + 1)), some (.int y17), some (.int y20), some (.int y23), some (.int 1)]) fe_45_202 rfl ?_
                                                          refine ay_t_br (pc := 205) (pc' := 6) fe_45_205 rfl ?_
                                                          exact ay_t_less (ay_ls (ay_ls (ay_ls (ay_ls (ay_ln (ay_ln (ay_ln (ay_ln ay_l0)))))))) (ih _ _ _ _ _ _ h)
                    · rw [if_neg hc33] at h
                      refine ay_t_neg (pc := 79) hc33 fe_45_79 rfl ?_
                      refine ay_t_loc (pc := 82) fe_45_82 rfl ?_
                      refine ay_t_loc (pc := 84) fe_45_84 rfl ?_
                      refine ay_t_stk (pc := 86) (S' := [.int (y17 - y20)]) fe_45_86 rfl ?_
                      refine ay_t_loc (pc := 87) fe_45_87 rfl ?_
                      refine ay_t_loc (pc := 88) fe_45_88 rfl ?_
                      refine ay_t_stk (pc := 89) (S' := [.int 0, .int x3, .ref 0, .int (y17 - y20)]) fe_45_89 rfl ?_
                      cases hk117 : fn_44 x3 0 D30 with
                      | none => rw [hk117] at h; cases h
                      | some z =>
                        obtain ⟨y115, k200, D116⟩ := z
                        rw [hk117] at h
                        dsimp only at h
                        by_cases hz201 : k200 = 0
                        case neg => rw [if_neg hz201] at h; cases h
                        rw [if_pos hz201] at h
                        subst hz201
                        refine ay_t_call (pc := 90) (w := some (.int y115)) fe_45_90 (ay_args [.ref 0, .int x3, .int 0] [.int (y17 - y20)] rfl rfl (Nat.le_of_ble_eq_true rfl) (Nat.le_of_ble_eq_true rfl)) (ay_rcvV at_0 rfl) (ev_44 hk117) ?_
                        by_cases hc118 : ¬ (y17 - y20) = y115
                        · rw [if_pos hc118] at h
                          refine ay_t_pos (pc := 93) hc118 fe_45_93 rfl ?_
                          refine ay_t_stk (pc := 192) (S' := [.int 0]) fe_45_192 rfl ?_
                          refine ay_t_loc (pc := 193) (L' := [some (.ref 0), some (.int (x1 + (y17 + y20))), some (.int (x2 + y26)), some (.int x3), some (.int y17), some (.int y20), some (.int y23), some (.int 0)]) fe_45_193 rfl ?_
                          refine ay_t_loc (pc := 195) fe_45_195 rfl ?_
                          refine ay_t_br (pc := 197) (pc' := 200) fe_45_197 rfl ?_
                          refine ay_t_stk (pc := 200) (S' := [.int 0]) fe_45_200 rfl ?_
                          cases h
                          exact ay_t_iret fe_45_201 rfl rfl
                        · rw [if_neg hc118] at h
                          refine ay_t_neg (pc := 93) hc118 fe_45_93 rfl ?_
                          refine ay_t_loc (pc := 96) fe_45_96 rfl ?_
                          refine ay_t_loc (pc := 97) fe_45_97 rfl ?_
                          refine ay_t_stk (pc := 98) (S' := [.int 2, .int x3, .ref 0]) fe_45_98 rfl ?_
                          cases hk121 : fn_44 x3 2 D116 with
                          | none => rw [hk121] at h; cases h
                          | some z =>
                            obtain ⟨y119, k198, D120⟩ := z
                            rw [hk121] at h
                            dsimp only at h
                            by_cases hz199 : k198 = 0
                            case neg => rw [if_neg hz199] at h; cases h
                            rw [if_pos hz199] at h
                            subst hz199
                            refine ay_t_call (pc := 99) (w := some (.int y119)) fe_45_99 (ay_args [.ref 0, .int x3, .int 2] [] rfl rfl (Nat.le_of_ble_eq_true rfl) (Nat.le_of_ble_eq_true rfl)) (ay_rcvV at_0 rfl) (ev_44 hk121) ?_
                            refine ay_t_loc (pc := 102) fe_45_102 rfl ?_
                            by_cases hc122 : y119 ≤ x3
                            · rw [if_pos hc122] at h
                              refine ay_t_pos (pc := 103) hc122 fe_45_103 rfl ?_
                              refine ay_t_stk (pc := 192) (S' := [.int 0]) fe_45_192 rfl ?_
                              refine ay_t_loc (pc := 193) (L' := [some (.ref 0), some (.int (x1 + (y17 + y20))), some (.int (x2 + y26)), some (.int x3), some (.int y17), some (.int y20), some (.int y23), some (.int 0)]) fe_45_193 rfl ?_
                              refine ay_t_loc (pc := 195) fe_45_195 rfl ?_
                              refine ay_t_br (pc := 197) (pc' := 200) fe_45_197 rfl ?_
                              refine ay_t_stk (pc := 200) (S' := [.int 0]) fe_45_200 rfl ?_
                              cases h
                              exact ay_t_iret fe_45_201 rfl rfl
                            · rw [if_neg hc122] at h
                              refine ay_t_neg (pc := 103) hc122 fe_45_103 rfl ?_
                              refine ay_t_loc (pc := 106) fe_45_106 rfl ?_
                              refine ay_t_loc (pc := 107) fe_45_107 rfl ?_
                              refine ay_t_stk (pc := 108) (S' := [.int 3, .int x3, .ref 0]) fe_45_108 rfl ?_
                              cases hk125 : fn_44 x3 3 D120 with
                              | none => rw [hk125] at h; cases h
                              | some z =>
                                obtain ⟨y123, k196, D124⟩ := z
                                rw [hk125] at h
                                dsimp only at h
                                by_cases hz197 : k196 = 0
                                case neg => rw [if_neg hz197] at h; cases h
                                rw [if_pos hz197] at h
                                subst hz197
                                refine ay_t_call (pc := 109) (w := some (.int y123)) fe_45_109 (ay_args [.ref 0, .int x3, .int 3] [] rfl rfl (Nat.le_of_ble_eq_true rfl) (Nat.le_of_ble_eq_true rfl)) (ay_rcvV at_0 rfl) (ev_44 hk125) ?_
                                refine ay_t_loc (pc := 112) fe_45_112 rfl ?_
                                by_cases hc126 : y123 ≤ x3
                                · rw [if_pos hc126] at h
                                  refine ay_t_pos (pc := 113) hc126 fe_45_113 rfl ?_
                                  refine ay_t_stk (pc := 192) (S' := [.int 0]) fe_45_192 rfl ?_
                                  refine ay_t_loc (pc := 193) (L' := [some (.ref 0), some (.int (x1 + (y17 + y20))), some (.int (x2 + y26)), some (.int x3), some (.int y17), some (.int y20), some (.int y23), some (.int 0)]) fe_45_193 rfl ?_
                                  refine ay_t_loc (pc := 195) fe_45_195 rfl ?_
                                  refine ay_t_br (pc := 197) (pc' := 200) fe_45_197 rfl ?_
                                  refine ay_t_stk (pc := 200) (S' := [.int 0]) fe_45_200 rfl ?_
                                  cases h
                                  exact ay_t_iret fe_45_201 rfl rfl
                                · rw [if_neg hc126] at h
                                  refine ay_t_neg (pc := 113) hc126 fe_45_113 rfl ?_
                                  refine ay_t_loc (pc := 116) fe_45_116 rfl ?_
                                  refine ay_t_loc (pc := 117) fe_45_117 rfl ?_
                                  refine ay_t_stk (pc := 118) (S' := [.int 2, .int x3, .ref 0]) fe_45_118 rfl ?_
                                  cases hk129 : fn_44 x3 2 D124 with
                                  | none => rw [hk129] at h; cases h
                                  | some z =>
                                    obtain ⟨y127, k194, D128⟩ := z
                                    rw [hk129] at h
                                    dsimp only at h
                                    by_cases hz195 : k194 = 0
                                    case neg => rw [if_neg hz195] at h; cases h
                                    rw [if_pos hz195] at h
                                    subst hz195
                                    refine ay_t_call (pc := 119) (w := some (.int y127)) fe_45_119 (ay_args [.ref 0, .int x3, .int 2] [] rfl rfl (Nat.le_of_ble_eq_true rfl) (Nat.le_of_ble_eq_true rfl)) (ay_rcvV at_0 rfl) (ev_44 hk129) ?_
                                    refine ay_t_loc (pc := 122) fe_45_122 rfl ?_
                                    refine ay_t_stk (pc := 123) (S' := [.int 1, .ref 0, .int y127]) fe_45_123 rfl ?_
                                    cases hk132 : fn_14 1 D128 with
                                    | none => rw [hk132] at h; cases h
                                    | some z =>
                                      obtain ⟨y130, k192, D131⟩ := z
                                      rw [hk132] at h
                                      dsimp only at h
                                      by_cases hz193 : k192 = 0
                                      case neg => rw [if_neg hz193] at h; cases h
                                      rw [if_pos hz193] at h
                                      subst hz193
                                      refine ay_t_call (pc := 124) (w := some (.int y130)) fe_45_124 (ay_args [.ref 0, .int 1] [.int y127] rfl rfl (Nat.le_of_ble_eq_true rfl) (Nat.le_of_ble_eq_true rfl)) (ay_rcvV at_0 rfl) (ev_14 hk132) ?_
                                      by_cases hc133 : y127 < y130
                                      · rw [if_pos hc133] at h
                                        refine ay_t_pos (pc := 127) hc133 fe_45_127 rfl ?_
                                        refine ay_t_loc (pc := 152) fe_45_152 rfl ?_
                                        refine ay_t_loc (pc := 153) fe_45_153 rfl ?_
                                        refine ay_t_stk (pc := 154) (S' := [.int 3, .int x3, .ref 0]) fe_45_154 rfl ?_
                                        cases hk136 : fn_44 x3 3 D131 with
                                        | none => rw [hk136] at h; cases h
                                        | some z =>
                                          obtain ⟨y134, k155, D135⟩ := z
                                          rw [hk136] at h
                                          dsimp only at h
                                          by_cases hz156 : k155 = 0
                                          case neg => rw [if_neg hz156] at h; cases h
                                          rw [if_pos hz156] at h
                                          subst hz156
                                          refine ay_t_call (pc := 155) (w := some (.int y134)) fe_45_155 (ay_args [.ref 0, .int x3, .int 3] [] rfl rfl (Nat.le_of_ble_eq_true rfl) (Nat.le_of_ble_eq_true rfl)) (ay_rcvV at_0 rfl) (ev_44 hk136) ?_
                                          refine ay_t_loc (pc := 158) fe_45_158 rfl ?_
                                          refine ay_t_stk (pc := 159) (S' := [.int 1, .ref 0, .int y134]) fe_45_159 rfl ?_
                                          cases hk139 : fn_14 1 D135 with
                                          | none => rw [hk139] at h; cases h
                                          | some z =>
                                            obtain ⟨y137, k153, D138⟩ := z
                                            rw [hk139] at h
                                            dsimp only at h
                                            by_cases hz154 : k153 = 0
                                            case neg => rw [if_neg hz154] at h; cases h
                                            rw [if_pos hz154] at h
                                            subst hz154
                                            refine ay_t_call (pc := 160) (w := some (.int y137)) fe_45_160 (ay_args [.ref 0, .int 1] [.int y134] rfl rfl (Nat.le_of_ble_eq_true rfl) (Nat.le_of_ble_eq_true rfl)) (ay_rcvV at_0 rfl) (ev_14 hk139) ?_
                                            by_cases hc140 : y134 < y137
                                            · rw [if_pos hc140] at h
                                              refine ay_t_pos (pc := 163) hc140 fe_45_163 rfl ?_
                                              refine ay_t_stk (pc := 188) (S' := [.int 1]) fe_45_188 rfl ?_
                                              refine ay_t_br (pc := 189) (pc' := 193) fe_45_189 rfl ?_
                                              refine ay_t_loc (pc := 193) (L' := [some (.ref 0), some (.int (x1 + (y17 + y20))), some (.int (x2 + y26)), some (.int x3), some (.int y17), some (.int y20), some (.int y23), some (.int 1)]) fe_45_193 rfl ?_
                                              refine ay_t_loc (pc := 195) fe_45_195 rfl ?_
                                              refine ay_t_br (pc := 197) (pc' := 202) fe_45_197 rfl ?_
                                              refine ay_t_loc (pc := 202) (L' := [some (.ref 0), some (.int (x1 + (y17 + y20))), some (.int (x2 + y26)), some (.int (x3 + 1)), some (.int y17), some (.int y20), some (.int y23), some (.int 1)]) fe_45_202 rfl ?_
                                              refine ay_t_br (pc := 205) (pc' := 6) fe_45_205 rfl ?_
                                              exact ay_t_less (ay_ls (ay_ls (ay_ls (ay_ls (ay_ln (ay_ln (ay_ln (ay_ln ay_l0)))))))) (ih _ _ _ _ _ _ h)
                                            · rw [if_neg hc140] at h
                                              refine ay_t_neg (pc := 163) hc140 fe_45_163 rfl ?_
                                              refine ay_t_loc (pc := 166) fe_45_166 rfl ?_
                                              refine ay_t_loc (pc := 167) fe_45_167 rfl ?_
                                              refine ay_t_stk (pc := 168) (S' := [.int 3, .int x3, .ref 0]) fe_45_168 rfl ?_
                                              cases hk143 : fn_44 x3 3 D138 with
                                              | none => rw [hk143] at h; cases h
                                              | some z =>
                                                obtain ⟨y141, k151, D142⟩ := z
                                                rw [hk143] at h
                                                dsimp only at h
                                                by_cases hz152 : k151 = 0
                                                case neg => rw [if_neg hz152] at h; cases h
                                                rw [if_pos hz152] at h
                                                subst hz152
                                                refine ay_t_call (pc := 169) (w := some (.int y141)) fe_45_169 (ay_args [.ref 0, .int x3, .int 3] [] rfl rfl (Nat.le_of_ble_eq_true rfl) (Nat.le_of_ble_eq_true rfl)) (ay_rcvV at_0 rfl) (ev_44 hk143) ?_
                                                refine ay_t_stk (pc := 172) (S' := [.int 19, .int y141]) fe_45_172 rfl ?_
                                                by_cases hc144 : y141 ≤ 19
                                                · rw [if_pos hc144] at h
                                                  refine ay_t_pos (pc := 174) hc144 fe_45_174 rfl ?_
                                                  refine ay_t_stk (pc := 192) (S' := [.int 0]) fe_45_192 rfl ?_
                                                  refine ay_t_loc (pc := 193) (L' := [some (.ref 0), some (.int (x1 + (y17 + y20))), some (.int (x2 + y26)), some (.int x3), some (.int y17), some (.int y20), some (.int y23), some (.int 0)]) fe_45_193 rfl ?_
                                                  refine ay_t_loc (pc := 195) fe_45_195 rfl ?_
                                                  refine ay_t_br (pc := 197) (pc' := 200) fe_45_197 rfl ?_
                                                  refine ay_t_stk (pc := 200) (S' := [.int 0]) fe_45_200 rfl ?_
                                                  cases h
                                                  exact ay_t_iret fe_45_201 rfl rfl
                                                · rw [if_neg hc144] at h
                                                  refine ay_t_neg (pc := 174) hc144 fe_45_174 rfl ?_
                                                  refine ay_t_loc (pc := 177) fe_45_177 rfl ?_
                                                  refine ay_t_loc (pc := 178) fe_45_178 rfl ?_
                                                  refine ay_t_stk (pc := 179) (S' := [.int 3, .int x3, .ref 0]) fe_45_179 rfl ?_
                                                  cases hk147 : fn_44 x3 3 D142 with
                                                  | none => rw [hk147] at h; cases h
                                                  | some z =>
                                                    obtain ⟨y145, k149, D146⟩ := z
                                                    rw [hk147] at h
                                                    dsimp only at h
                                                    by_cases hz150 : k149 = 0
                                                    case neg => rw [if_neg hz150] at h; cases h
                                                    rw [if_pos hz150] at h
                                                    subst hz150
                                                    refine ay_t_call (pc := 180) (w := some (.int y145)) fe_45_180 (ay_args [.ref 0, .int x3, .int 3] [] rfl rfl (Nat.le_of_ble_eq_true rfl) (Nat.le_of_ble_eq_true rfl)) (ay_rcvV at_0 rfl) (ev_44 hk147) ?_
                                                    refine ay_t_stk (pc := 183) (S' := [.int 25, .int y145]) fe_45_183 rfl ?_
                                                    by_cases hc148 : 25 ≤ y145
                                                    · rw [if_pos hc148] at h
                                                      refine ay_t_pos (pc := 185) hc148 fe_45_185 rfl ?_
                                                      refine ay_t_stk (pc := 192) (S' := [.int 0]) fe_45_192 rfl ?_
                                                      refine ay_t_loc (pc := 193) (L' := [some (.ref 0), some (.int (x1 + (y17 + y20))), some (.int (x2 + y26)), some (.int x3), some (.int y17), some (.int y20), some (.int y23), some (.int 0)]) fe_45_193 rfl ?_
                                                      refine ay_t_loc (pc := 195) fe_45_195 rfl ?_
                                                      refine ay_t_br (pc := 197) (pc' := 200) fe_45_197 rfl ?_
                                                      refine ay_t_stk (pc := 200) (S' := [.int 0]) fe_45_200 rfl ?_
                                                      cases h
                                                      exact ay_t_iret fe_45_201 rfl rfl
                                                    · rw [if_neg hc148] at h
                                                      refine ay_t_neg (pc := 185) hc148 fe_45_185 rfl ?_
                                                      refine ay_t_stk (pc := 188) (S' := [.int 1]) fe_45_188 rfl ?_
                                                      refine ay_t_br (pc := 189) (pc' := 193) fe_45_189 rfl ?_
                                                      refine ay_t_loc (pc := 193) (L' := [some (.ref 0), some (.int (x1 + (y17 + y20))), some (.int (x2 + y26)), some (.int x3), some (.int y17), some (.int y20), some (.int y23), some (.int 1)]) fe_45_193 rfl ?_
                                                      refine ay_t_loc (pc := 195) fe_45_195 rfl ?_
                                                      refine ay_t_br (pc := 197) (pc' := 202) fe_45_197 rfl ?_
                                                      refine ay_t_loc (pc := 202) (L' := [some (.ref 0), some (.int (x1 + (y17 + y20))), some (.int (x2 + y26)), some (.int (x3 + 1)), some (.int y17), some (.int y20), some (.int y23), some (.int 1)]) fe_45_202 rfl ?_
                                                      refine ay_t_br (pc := 205) (pc' := 6) fe_45_205 rfl ?_
                                                      exact ay_t_less (ay_ls (ay_ls (ay_ls (ay_ls (ay_ln (ay_ln (ay_ln (ay_ln ay_l0)))))))) (ih _ _ _ _ _ _ h)
                                      · rw [if_neg hc133] at h
                                        refine ay_t_neg (pc := 127) hc133 fe_45_127 rfl ?_
                                        refine ay_t_loc (pc := 130) fe_45_130 rfl ?_
                                        refine ay_t_loc (pc := 131) fe_45_131 rfl ?_
                                        refine ay_t_stk (pc := 132) (S' := [.int 2, .int x3, .ref 0]) fe_45_132 rfl ?_
                                        cases hk159 : fn_44 x3 2 D131 with
                                        | none => rw [hk159] at h; cases h
                                        | some z =>
                                          obtain ⟨y157, k190, D158⟩ := z
                                          rw [hk159] at h
                                          dsimp only at h
                                          by_cases hz191 : k190 = 0
                                          case neg => rw [if_neg hz191] at h; cases h
                                          rw [if_pos hz191] at h
                                          subst hz191
                                          refine ay_t_call (pc := 133) (w := some (.int y157)) fe_45_133 (ay_args [.ref 0, .int x3, .int 2] [] rfl rfl (Nat.le_of_ble_eq_true rfl) (Nat.le_of_ble_eq_true rfl)) (ay_rcvV at_0 rfl) (ev_44 hk159) ?_
                                          refine ay_t_stk (pc := 136) (S' := [.int 19, .int y157]) fe_45_136 rfl ?_
                                          by_cases hc160 : y157 ≤ 19
                                          · rw [if_pos hc160] at h
                                            refine ay_t_pos (pc := 138) hc160 fe_45_138 rfl ?_
                                            refine ay_t_stk (pc := 192) (S' := [.int 0]) fe_45_192 rfl ?_
                                            refine ay_t_loc (pc := 193) (L' := [some (.ref 0), some (.int (x1 + (y17 + y20))), some (.int (x2 + y26)), some (.int x3), some (.int y17), some (.int y20), some (.int y23), some (.int 0)]) fe_45_193 rfl ?_
                                            refine ay_t_loc (pc := 195) fe_45_195 rfl ?_
                                            refine ay_t_br (pc := 197) (pc' := 200) fe_45_197 rfl ?_
                                            refine ay_t_stk (pc := 200) (S' := [.int 0]) fe_45_200 rfl ?_
                                            cases h
                                            exact ay_t_iret fe_45_201 rfl rfl
                                          · rw [if_neg hc160] at h
                                            refine ay_t_neg (pc := 138) hc160 fe_45_138 rfl ?_
                                            refine ay_t_loc (pc := 141) fe_45_141 rfl ?_
                                            refine ay_t_loc (pc := 142) fe_45_142 rfl ?_
                                            refine ay_t_stk (pc := 143) (S' := [.int 2, .int x3, .ref 0]) fe_45_143 rfl ?_
                                            cases hk163 : fn_44 x3 2 D158 with
                                            | none => rw [hk163] at h; cases h
                                            | some z =>
                                              obtain ⟨y161, k188, D162⟩ := z
                                              rw [hk163] at h
                                              dsimp only at h
                                              by_cases hz189 : k188 = 0
                                              case neg => rw [if_neg hz189] at h; cases h
                                              rw [if_pos hz189] at h
                                              subst hz189
                                              refine ay_t_call (pc := 144) (w := some (.int y161)) fe_45_144 (ay_args [.ref 0, .int x3, .int 2] [] rfl rfl (Nat.le_of_ble_eq_true rfl) (Nat.le_of_ble_eq_true rfl)) (ay_rcvV at_0 rfl) (ev_44 hk163) ?_
                                              refine ay_t_stk (pc := 147) (S' := [.int 25, .int y161]) fe_45_147 rfl ?_
                                              by_cases hc164 : 25 ≤ y161
                                              · rw [if_pos hc164] at h
                                                refine ay_t_pos (pc := 149) hc164 fe_45_149 rfl ?_
                                                refine ay_t_stk (pc := 192) (S' := [.int 0]) fe_45_192 rfl ?_
                                                refine ay_t_loc (pc := 193) (L' := [some (.ref 0), some (.int (x1 + (y17 + y20))), some (.int (x2 + y26)), some (.int x3), some (.int y17), some (.int y20), some (.int y23), some (.int 0)]) fe_45_193 rfl ?_
                                                refine ay_t_loc (pc := 195) fe_45_195 rfl ?_
                                                refine ay_t_br (pc := 197) (pc' := 200) fe_45_197 rfl ?_
                                                refine ay_t_stk (pc := 200) (S' := [.int 0]) fe_45_200 rfl ?_
                                                cases h
                                                exact ay_t_iret fe_45_201 rfl rfl
                                              · rw [if_neg hc164] at h
                                                refine ay_t_neg (pc := 149) hc164 fe_45_149 rfl ?_
                                                refine ay_t_loc (pc := 152) fe_45_152 rfl ?_
                                                refine ay_t_loc (pc := 153) fe_45_153 rfl ?_
                                                refine ay_t_stk (pc := 154) (S' := [.int 3, .int x3, .ref 0]) fe_45_154 rfl ?_
                                                cases hk167 : fn_44 x3 3 D162 with
                                                | none => rw [hk167] at h; cases h
                                                | some z =>
                                                  obtain ⟨y165, k186, D166⟩ := z
                                                  rw [hk167] at h
                                                  dsimp only at h
                                                  by_cases hz187 : k186 = 0
                                                  case neg => rw [if_neg hz187] at h; cases h
                                                  rw [if_pos hz187] at h
                                                  subst hz187
                                                  refine ay_t_call (pc := 155) (w := some (.int y165)) fe_45_155 (ay_args [.ref 0, .int x3, .int 3] [] rfl rfl (Nat.le_of_ble_eq_true rfl) (Nat.le_of_ble_eq_true rfl)) (ay_rcvV at_0 rfl) (ev_44 hk167) ?_
                                                  refine ay_t_loc (pc := 158) fe_45_158 rfl ?_
                                                  refine ay_t_stk (pc := 159) (S' := [.int 1, .ref 0, .int y165]) fe_45_159 rfl ?_
                                                  cases hk170 : fn_14 1 D166 with
                                                  | none => rw [hk170] at h; cases h
                                                  | some z =>
                                                    obtain ⟨y168, k184, D169⟩ := z
                                                    rw [hk170] at h
                                                    dsimp only at h
                                                    by_cases hz185 : k184 = 0
                                                    case neg => rw [if_neg hz185] at h; cases h
                                                    rw [if_pos hz185] at h
                                                    subst hz185
                                                    refine ay_t_call (pc := 160) (w := some (.int y168)) fe_45_160 (ay_args [.ref 0, .int 1] [.int y165] rfl rfl (Nat.le_of_ble_eq_true rfl) (Nat.le_of_ble_eq_true rfl)) (ay_rcvV at_0 rfl) (ev_14 hk170) ?_
                                                    by_cases hc171 : y165 < y168
                                                    · rw [if_pos hc171] at h
                                                      refine ay_t_pos (pc := 163) hc171 fe_45_163 rfl ?_
                                                      refine ay_t_stk (pc := 188) (S' := [.int 1]) fe_45_188 rfl ?_
                                                      refine ay_t_br (pc := 189) (pc' := 193) fe_45_189 rfl ?_
                                                      refine ay_t_loc (pc := 193) (L' := [some (.ref 0), some (.int (x1 + (y17 + y20))), some (.int (x2 + y26)), some (.int x3), some (.int y17), some (.int y20), some (.int y23), some (.int 1)]) fe_45_193 rfl ?_
                                                      refine ay_t_loc (pc := 195) fe_45_195 rfl ?_
                                                      refine ay_t_br (pc := 197) (pc' := 202) fe_45_197 rfl ?_
                                                      refine ay_t_loc (pc := 202) (L' := [some (.ref 0), some (.int (x1 + (y17 + y20))), some (.int (x2 + y26)), some (.int (x3 + 1)), some (.int y17), some (.int y20), some (.int y23), some (.int 1)]) fe_45_202 rfl ?_
                                                      refine ay_t_br (pc := 205) (pc' := 6) fe_45_205 rfl ?_
                                                      exact ay_t_less (ay_ls (ay_ls (ay_ls (ay_ls (ay_ln (ay_ln (ay_ln (ay_ln ay_l0)))))))) (ih _ _ _ _ _ _ h)
                                                    · rw [if_neg hc171] at h
                                                      refine ay_t_neg (pc := 163) hc171 fe_45_163 rfl ?_
                                                      refine ay_t_loc (pc := 166) fe_45_166 rfl ?_
                                                      refine ay_t_loc (pc := 167) fe_45_167 rfl ?_
                                                      refine ay_t_stk (pc := 168) (S' := [.int 3, .int x3, .ref 0]) fe_45_168 rfl ?_
                                                      cases hk174 : fn_44 x3 3 D169 with
                                                      | none => rw [hk174] at h; cases h
                                                      | some z =>
                                                        obtain ⟨y172, k182, D173⟩ := z
                                                        rw [hk174] at h
                                                        dsimp only at h
                                                        by_cases hz183 : k182 = 0
                                                        case neg => rw [if_neg hz183] at h; cases h
                                                        rw [if_pos hz183] at h
                                                        subst hz183
                                                        refine ay_t_call (pc := 169) (w := some (.int y172)) fe_45_169 (ay_args [.ref 0, .int x3, .int 3] [] rfl rfl (Nat.le_of_ble_eq_true rfl) (Nat.le_of_ble_eq_true rfl)) (ay_rcvV at_0 rfl) (ev_44 hk174) ?_
                                                        refine ay_t_stk (pc := 172) (S' := [.int 19, .int y172]) fe_45_172 rfl ?_
                                                        by_cases hc175 : y172 ≤ 19
                                                        · rw [if_pos hc175] at h
                                                          refine ay_t_pos (pc := 174) hc175 fe_45_174 rfl ?_
                                                          refine ay_t_stk (pc := 192) (S' := [.int 0]) fe_45_192 rfl ?_
                                                          refine ay_t_loc (pc := 193) (L' := [some (.ref 0), some (.int (x1 + (y17 + y20))), some (.int (x2 + y26)), some (.int x3), some (.int y17), some (.int y20), some (.int y23), some (.int 0)]) fe_45_193 rfl ?_
                                                          refine ay_t_loc (pc := 195) fe_45_195 rfl ?_
                                                          refine ay_t_br (pc := 197) (pc' := 200) fe_45_197 rfl ?_
                                                          refine ay_t_stk (pc := 200) (S' := [.int 0]) fe_45_200 rfl ?_
                                                          cases h
                                                          exact ay_t_iret fe_45_201 rfl rfl
                                                        · rw [if_neg hc175] at h
                                                          refine ay_t_neg (pc := 174) hc175 fe_45_174 rfl ?_
                                                          refine ay_t_loc (pc := 177) fe_45_177 rfl ?_
                                                          refine ay_t_loc (pc := 178) fe_45_178 rfl ?_
                                                          refine ay_t_stk (pc := 179) (S' := [.int 3, .int x3, .ref 0]) fe_45_179 rfl ?_
                                                          cases hk178 : fn_44 x3 3 D173 with
                                                          | none => rw [hk178] at h; cases h
                                                          | some z =>
                                                            obtain ⟨y176, k180, D177⟩ := z
                                                            rw [hk178] at h
                                                            dsimp only at h
                                                            by_cases hz181 : k180 = 0
                                                            case neg => rw [if_neg hz181] at h; cases h
                                                            rw [if_pos hz181] at h
                                                            subst hz181
                                                            refine ay_t_call (pc := 180) (w := some (.int y176)) fe_45_180 (ay_args [.ref 0, .int x3, .int 3] [] rfl rfl (Nat.le_of_ble_eq_true rfl) (Nat.le_of_ble_eq_true rfl)) (ay_rcvV at_0 rfl) (ev_44 hk178) ?_
                                                            refine ay_t_stk (pc := 183) (S' := [.int 25, .int y176]) fe_45_183 rfl ?_
                                                            by_cases hc179 : 25 ≤ y176
                                                            · rw [if_pos hc179] at h
                                                              refine ay_t_pos (pc := 185) hc179 fe_45_185 rfl ?_
                                                              refine ay_t_stk (pc := 192) (S' := [.int 0]) fe_45_192 rfl ?_
                                                              refine ay_t_loc (pc := 193) (L' := [some (.ref 0), some (.int (x1 + (y17 + y20))), some (.int (x2 + y26)), some (.int x3), some (.int y17), some (.int y20), some (.int y23), some (.int 0)]) fe_45_193 rfl ?_
                                                              refine ay_t_loc (pc := 195) fe_45_195 rfl ?_
                                                              refine ay_t_br (pc := 197) (pc' := 200) fe_45_197 rfl ?_
                                                              refine ay_t_stk (pc := 200) (S' := [.int 0]) fe_45_200 rfl ?_
                                                              cases h
                                                              exact ay_t_iret fe_45_201 rfl rfl
                                                            · rw [if_neg hc179] at h
                                                              refine ay_t_neg (pc := 185) hc179 fe_45_185 rfl ?_
                                                              refine ay_t_stk (pc := 188) (S' := [.int 1]) fe_45_188 rfl ?_
                                                              refine ay_t_br (pc := 189) (pc' := 193) fe_45_189 rfl ?_
                                                              refine ay_t_loc (pc := 193) (L' := [some (.ref 0), some (.int (x1 + (y17 + y20))), some (.int (x2 + y26)), some (.int x3), some (.int y17), some (.int y20), some (.int y23), some (.int 1)]) fe_45_193 rfl ?_
                                                              refine ay_t_loc (pc := 195) fe_45_195 rfl ?_
                                                              refine ay_t_br (pc := 197) (pc' := 202) fe_45_197 rfl ?_
                                                              refine ay_t_loc (pc := 202) (L' := [some (.ref 0), some (.int (x1 + (y17 + y20))), some (.int (x2 + y26)), some (.int (x3 + 1)), some (.int y17), some (.int y20), some (.int y23), some (.int 1)]) fe_45_202 rfl ?_
                                                              refine ay_t_br (pc := 205) (pc' := 6) fe_45_205 rfl ?_
                                                              exact ay_t_less (ay_ls (ay_ls (ay_ls (ay_ls (ay_ln (ay_ln (ay_ln (ay_ln ay_l0)))))))) (ih _ _ _ _ _ _ h)
def fn_45 (D : am_DD) : Option (Int32 × am_DD) := fn_45_6 am_F 0 0 0 D
set_option maxHeartbeats 2000000 in
theorem ev_45 {D : am_DD} {y : Int32} {Z : am_DD} (h : fn_45  D = some (y, Z)) : ay_mo 45 [.ref 0] D (.inl (some (.int y))) Z := by
  unfold fn_45 at h
  refine ay_m_of (L := [some (.ref 0), none, none, none, none, none, none, none]) rfl ?_
  refine ay_t_stk (pc := 0) (S' := [.int 0]) fe_45_0 rfl ?_
  refine ay_t_loc (pc := 1) (L' := [some (.ref 0), some (.int 0), none, none, none, none, none, none]) fe_45_1 rfl ?_
  refine ay_t_stk (pc := 2) (S' := [.int 0]) fe_45_2 rfl ?_
  refine ay_t_loc (pc := 3) (L' := [some (.ref 0), some (.int 0), some (.int 0), none, none, none, none, none]) fe_45_3 rfl ?_
  refine ay_t_stk (pc := 4) (S' := [.int 0]) fe_45_4 rfl ?_
  refine ay_t_loc (pc := 5) (L' := [some (.ref 0), some (.int 0), some (.int 0), some (.int 0), none, none, none, none]) fe_45_5 rfl ?_
  exact ay_t_less (ay_ls (ay_ls (ay_ls (ay_ls (ay_ls (ay_ls (ay_ls (ay_ls ay_l0)))))))) (ev_45_6 _ _ _ _ _ _ _ h)
def fn_46_17 : Nat → Int32 → Int32 → am_DD → Option (Int32 × am_DD)
  | 0, _, _, _ => none
  | n + 1, x1, x2, D => (if x2 < 0 then some ((rw_at (D 39) 25 0), D) else (match fn_31 x2 0 D with | none => none | some (y2, D3) => (match fn_31 x2 1 D3 with | none => none | some (y5, D6) => (if x1 = 0 then fn_46_17 n x1 (x2 + (-1)) (rw_put D6 39 25 x2 (1 + (if (rw_at (D6 39) 25 y5) < (rw_at (D3 39) 25 y2) then (rw_at (D6 39) 25 y5) else (rw_at (D3 39) 25 y2)))) else fn_46_17 n x1 (x2 + (-1)) (rw_put D6 39 25 x2 (1 + (if (rw_at (D3 39) 25 y2) < (rw_at (D6 39) 25 y5) then (rw_at (D6 39) 25 y5) else (rw_at (D3 39) 25 y2))))))))
set_option maxHeartbeats 2000000 in
theorem ev_46_17 : ∀ (n : Nat) (x1 x2 : Int32) (D : am_DD) (y : Int32) (Z : am_DD), fn_46_17 n x1 x2 D = some (y, Z) → ay_to 46 17 [some (.ref 33), some (.int x1), some (.int x2), none, none] [] D (.inl (some (.int y))) Z := by
  intro n
  induction n with
  | zero => intro x1 x2 D y Z h; cases h
  | succ n ih =>
    intro x1 x2 D y Z h
    rw [fn_46_17] at h
    refine ay_t_loc (pc := 17) fe_46_17 rfl ?_
    by_cases hc1 : x2 < 0
    · rw [if_pos hc1] at h
      refine ay_t_pos (pc := 18) hc1 fe_46_18 rfl ?_
      refine ay_t_loc (pc := 91) fe_46_91 rfl ?_
      refine ay_t_getR (pc := 92) (w := .ref 38) fe_46_92 at_33 (by decide +kernel) rfl ?_
      refine ay_t_stk (pc := 95) (S' := [.int 0, .ref 38]) fe_46_95 rfl ?_
      refine ay_t_call (pc := 96) (w := some (.int (rw_at (D 39) 25 0))) fe_46_96 (ay_args [.ref 38, .int 0] [] rfl rfl (Nat.le_of_ble_eq_true rfl) (Nat.le_of_ble_eq_true rfl)) (ay_rcvV at_38 rfl) (mt_at at_38 at_39 (by decide)) ?_
      cases h
      exact ay_t_iret fe_46_99 rfl rfl
    · rw [if_neg hc1] at h
      refine ay_t_neg (pc := 18) hc1 fe_46_18 rfl ?_
      refine ay_t_loc (pc := 21) fe_46_21 rfl ?_
      refine ay_t_getR (pc := 22) (w := .ref 38) fe_46_22 at_33 (by decide +kernel) rfl ?_
      refine ay_t_loc (pc := 25) fe_46_25 rfl ?_
      refine ay_t_getR (pc := 26) (w := .ref 8) fe_46_26 at_33 (by decide +kernel) rfl ?_
      refine ay_t_loc (pc := 29) fe_46_29 rfl ?_
      refine ay_t_stk (pc := 30) (S' := [.int 0, .int x2, .ref 8, .ref 38]) fe_46_30 rfl ?_
      cases hk4 : fn_31 x2 0 D with
      | none => rw [hk4] at h; cases h
      | some z =>
        obtain ⟨y2, D3⟩ := z
        rw [hk4] at h
        dsimp only at h
        refine ay_t_call (pc := 31) (w := some (.int y2)) fe_46_31 (ay_args [.ref 8, .int x2, .int 0] [.ref 38] rfl rfl (Nat.le_of_ble_eq_true rfl) (Nat.le_of_ble_eq_true rfl)) (ay_rcvV at_8 rfl) (ev_31 hk4) ?_
        refine ay_t_call (pc := 34) (w := some (.int (rw_at (D3 39) 25 y2))) fe_46_34 (ay_args [.ref 38, .int y2] [] rfl rfl (Nat.le_of_ble_eq_true rfl) (Nat.le_of_ble_eq_true rfl)) (ay_rcvV at_38 rfl) (mt_at at_38 at_39 (by decide)) ?_
        refine ay_t_loc (pc := 37) (L' := [some (.ref 33), some (.int x1), some (.int x2), some (.int (rw_at (D3 39) 25 y2)), none]) fe_46_37 rfl ?_
        refine ay_t_loc (pc := 38) fe_46_38 rfl ?_
        refine ay_t_getR (pc := 39) (w := .ref 38) fe_46_39 at_33 (by decide +kernel) rfl ?_
        refine ay_t_loc (pc := 42) fe_46_42 rfl ?_
        refine ay_t_getR (pc := 43) (w := .ref 8) fe_46_43 at_33 (by decide +kernel) rfl ?_
        refine ay_t_loc (pc := 46) fe_46_46 rfl ?_
        refine ay_t_stk (pc := 47) (S' := [.int 1, .int x2, .ref 8, .ref 38]) fe_46_47 rfl ?_
        cases hk7 : fn_31 x2 1 D3 with
        | none => rw [hk7] at h; cases h
        | some z =>
          obtain ⟨y5, D6⟩ := z
          rw [hk7] at h
          dsimp only at h
          refine ay_t_call (pc := 48) (w := some (.int y5)) fe_46_48 (ay_args [.ref 8, .int x2, .int 1] [.ref 38] rfl rfl (Nat.le_of_ble_eq_true rfl) (Nat.le_of_ble_eq_true rfl)) (ay_rcvV at_8 rfl) (ev_31 hk7) ?_
          refine ay_t_call (pc := 51) (w := some (.int (rw_at (D6 39) 25 y5))) fe_46_51 (ay_args [.ref 38, .int y5] [] rfl rfl (Nat.le_of_ble_eq_true rfl) (Nat.le_of_ble_eq_true rfl)) (ay_rcvV at_38 rfl) (mt_at at_38 at_39 (by decide)) ?_
          refine ay_t_loc (pc := 54) (L' := [some (.ref 33), some (.int x1), some (.int x2), some (.int (rw_at (D3 39) 25 y2)), some (.int (rw_at (D6 39) 25 y5))]) fe_46_54 rfl ?_
          refine ay_t_loc (pc := 56) fe_46_56 rfl ?_
          refine ay_t_getR (pc := 57) (w := .ref 38) fe_46_57 at_33 (by decide +kernel) rfl ?_
          refine ay_t_loc (pc := 60) fe_46_60 rfl ?_
          refine ay_t_stk (pc := 61) (S' := [.int 1, .int x2, .ref 38]) fe_46_61 rfl ?_
          refine ay_t_loc (pc := 62) fe_46_62 rfl ?_
          by_cases hc8 : x1 = 0
          · rw [if_pos hc8] at h
            refine ay_t_pos (pc := 63) hc8 fe_46_63 rfl ?_
            refine ay_t_loc (pc := 75) fe_46_75 rfl ?_
            refine ay_t_loc (pc := 76) fe_46_76 rfl ?_
            refine ay_t_lib (pc := 78) (S' := [.int (if (rw_at (D6 39) 25 y5) < (rw_at (D3 39) 25 y2) then (rw_at (D6 39) 25 y5) else (rw_at (D3 39) 25 y2)), .int 1, .int x2, .ref 38]) fe_46_78 rfl ?_
            refine ay_t_stk (pc := 81) (S' := [.int (1 + (if (rw_at (D6 39) 25 y5) < (rw_at (D3 39) 25 y2) then (rw_at (D6 39) 25 y5) else (rw_at (D3 39) 25 y2))), .int x2, .ref 38]) fe_46_81 rfl ?_
            refine ay_t_call (pc := 82) (w := none) fe_46_82 (ay_args [.ref 38, .int x2, .int (1 + (if (rw_at (D6 39) 25 y5) < (rw_at (D3 39) 25 y2) then (rw_at (D6 39) 25 y5) else (rw_at (D3 39) 25 y2)))] [] rfl rfl (Nat.le_of_ble_eq_true rfl) (Nat.le_of_ble_eq_true rfl)) (ay_rcvV at_38 rfl) (mt_put at_38 at_39 (by decide)) ?_
            refine ay_t_loc (pc := 85) (L' := [some (.ref 33), some (.int x1), some (.int (x2 + (-1))), some (.int (rw_at (D3 39) 25 y2)), some (.int (rw_at (D6 39) 25 y5))]) fe_46_85 rfl ?_
            refine ay_t_br (pc := 88) (pc' := 17) fe_46_88 rfl ?_
            exact ay_t_less (ay_ls (ay_ls (ay_ls (ay_ln (ay_ln ay_l0))))) (ih _ _ _ _ _ h)
          · rw [if_neg hc8] at h
            refine ay_t_neg (pc := 63) hc8 fe_46_63 rfl ?_
            refine ay_t_loc (pc := 66) fe_46_66 rfl ?_
            refine ay_t_loc (pc := 67) fe_46_67 rfl ?_
            refine ay_t_lib (pc := 69) (S' := [.int (if (rw_at (D3 39) 25 y2) < (rw_at (D6 39) 25 y5) then (rw_at (D6 39) 25 y5) else (rw_at (D3 39) 25 y2)), .int 1, .int x2, .ref 38]) fe_46_69 rfl ?_
            refine ay_t_br (pc := 72) (pc' := 81) fe_46_72 rfl ?_
            refine ay_t_stk (pc := 81) (S' := [.int (1 + (if (rw_at (D3 39) 25 y2) < (rw_at (D6 39) 25 y5) then (rw_at (D6 39) 25 y5) else (rw_at (D3 39) 25 y2))), .int x2, .ref 38]) fe_46_81 rfl ?_
            refine ay_t_call (pc := 82) (w := none) fe_46_82 (ay_args [.ref 38, .int x2, .int (1 + (if (rw_at (D3 39) 25 y2) < (rw_at (D6 39) 25 y5) then (rw_at (D6 39) 25 y5) else (rw_at (D3 39) 25 y2)))] [] rfl rfl (Nat.le_of_ble_eq_true rfl) (Nat.le_of_ble_eq_true rfl)) (ay_rcvV at_38 rfl) (mt_put at_38 at_39 (by decide)) ?_
            refine ay_t_loc (pc := 85) (L' := [some (.ref 33), some (.int x1), some (.int (x2 + (-1))), some (.int (rw_at (D3 39) 25 y2)), some (.int (rw_at (D6 39) 25 y5))]) fe_46_85 rfl ?_
            refine ay_t_br (pc := 88) (pc' := 17) fe_46_88 rfl ?_
            exact ay_t_less (ay_ls (ay_ls (ay_ls (ay_ln (ay_ln ay_l0))))) (ih _ _ _ _ _ h)
def fn_46 (a1 : Int32) (D : am_DD) : Option (Int32 × am_DD) := fn_46_17 am_F a1 (((rw_wipe D 39 25) 8 0) - 1) (rw_wipe D 39 25)
set_option maxHeartbeats 2000000 in
theorem ev_46 {a1 : Int32} {D : am_DD} {y : Int32} {Z : am_DD} (h : fn_46 a1 D = some (y, Z)) : ay_mo 46 [.ref 33, .int a1] D (.inl (some (.int y))) Z := by
  unfold fn_46 at h
  refine ay_m_of (L := [some (.ref 33), some (.int a1), none, none, none]) rfl ?_
  refine ay_t_loc (pc := 0) fe_46_0 rfl ?_
  refine ay_t_getR (pc := 1) (w := .ref 38) fe_46_1 at_33 (by decide +kernel) rfl ?_
  refine ay_t_call (pc := 4) (w := none) fe_46_4 (ay_args [.ref 38] [] rfl rfl (Nat.le_of_ble_eq_true rfl) (Nat.le_of_ble_eq_true rfl)) (ay_rcvV at_38 rfl) (mt_wipe at_38 at_39 (by decide)) ?_
  refine ay_t_loc (pc := 7) fe_46_7 rfl ?_
  refine ay_t_getR (pc := 8) (w := .ref 8) fe_46_8 at_33 (by decide +kernel) rfl ?_
  refine ay_t_getI (pc := 11) fe_46_11 at_8 (by decide +kernel) rfl ?_
  refine ay_t_stk (pc := 14) (S' := [.int 1, .int ((rw_wipe D 39 25) 8 0)]) fe_46_14 rfl ?_
  refine ay_t_stk (pc := 15) (S' := [.int (((rw_wipe D 39 25) 8 0) - 1)]) fe_46_15 rfl ?_
  refine ay_t_loc (pc := 16) (L' := [some (.ref 33), some (.int a1), some (.int (((rw_wipe D 39 25) 8 0) - 1)), none, none]) fe_46_16 rfl ?_
  exact ay_t_less (ay_ls (ay_ls (ay_ls (ay_ls (ay_ls ay_l0))))) (ev_46_17 _ _ _ _ _ _ h)
def fn_47 (a1 : Int32) (D : am_DD) : Option (Int32 × am_DD) := (match fn_46 a1 D with | none => none | some (y1, D2) => some (y1, D2))
set_option maxHeartbeats 2000000 in
theorem ev_47 {a1 : Int32} {D : am_DD} {y : Int32} {Z : am_DD} (h : fn_47 a1 D = some (y, Z)) : ay_mo 47 [.ref 0, .int a1] D (.inl (some (.int y))) Z := by
  unfold fn_47 at h
  refine ay_m_of (L := [some (.ref 0), some (.int a1)]) rfl ?_
  refine ay_t_loc (pc := 0) fe_47_0 rfl ?_
  refine ay_t_getR (pc := 1) (w := .ref 33) fe_47_1 at_0 (by decide +kernel) rfl ?_
  refine ay_t_loc (pc := 4) fe_47_4 rfl ?_
  cases hk3 : fn_46 a1 D with
  | none => rw [hk3] at h; cases h
  | some z =>
    obtain ⟨y1, D2⟩ := z
    rw [hk3] at h
    dsimp only at h
    refine ay_t_call (pc := 5) (w := some (.int y1)) fe_47_5 (ay_args [.ref 33, .int a1] [] rfl rfl (Nat.le_of_ble_eq_true rfl) (Nat.le_of_ble_eq_true rfl)) (ay_rcvV at_33 rfl) (ev_46 hk3) ?_
    cases h
    exact ay_t_iret fe_47_8 rfl rfl
