/-! methods as functions, with what am_run does (written by wip/p32/gen6.py) -/
def fn_13 (D : am_DD) : Option (Int32 × am_DD) := some ((D 56 2), D)
set_option maxHeartbeats 2000000 in
theorem ev_13 {D : am_DD} {y : Int32} {Z : am_DD} (h : fn_13  D = some (y, Z)) : ay_mo 13 [.ref 56] D (.inl (some (.int y))) Z := by
  unfold fn_13 at h
  refine ay_m_of (L := [some (.ref 56)]) rfl ?_
  refine ay_t_loc (pc := 0) fe_13_0 rfl ?_
  refine ay_t_getI (pc := 1) fe_13_1 at_56 (by decide +kernel) rfl ?_
  cases h
  exact ay_t_iret fe_13_4 rfl rfl
def fn_14 (a1 : Int32) (D : am_DD) : Option (Int32 × Nat × am_DD) := (if a1 = 0 then some ((D 1 0), 0, D) else (if a1 = 1 then some ((D 8 0), 0, D) else (if a1 = 2 then some ((D 1 1), 0, D) else (if a1 = 3 then some ((D 19 0), 0, D) else (if a1 = 4 then some ((D 1 2), 0, D) else (if a1 = 5 then some ((rw_at (D 3) 2 0), 0, D) else (if a1 = 6 then some ((rw_at (D 3) 2 1), 0, D) else (if a1 = 7 then some ((D 1 3), 0, D) else (if a1 = 8 then some ((D 1 4), 0, D) else (if a1 = 9 then some ((D 26 2), 0, D) else (if a1 = 10 then (match fn_13 D with | none => none | some (y12, D13) => some (y12, 0, D13)) else (if a1 = 11 then some ((D 45 0), 0, D) else some (0, 1, D)))))))))))))
set_option maxHeartbeats 2000000 in
theorem ev_14 {a1 : Int32} {D : am_DD} {y : Int32} {k : Nat} {Z : am_DD} (h : fn_14 a1 D = some (y, k, Z)) : ay_mo 14 [.ref 0, .int a1] D (ay_oc y k) Z := by
  unfold fn_14 at h
  refine ay_m_of (L := [some (.ref 0), some (.int a1)]) rfl ?_
  refine ay_t_loc (pc := 0) fe_14_0 rfl ?_
  by_cases hc1 : a1 = 0
  · rw [if_pos hc1] at h
    refine ay_t_br (pc := 1) (pc' := 64) (S' := []) fe_14_1 (by rw [hc1]; rfl) ?_
    refine ay_t_loc (pc := 64) fe_14_64 rfl ?_
    refine ay_t_getR (pc := 65) (w := .ref 1) fe_14_65 at_0 (by decide +kernel) rfl ?_
    refine ay_t_getI (pc := 68) fe_14_68 at_1 (by decide +kernel) rfl ?_
    cases h
    exact ay_t_iret fe_14_71 rfl rfl
  · rw [if_neg hc1] at h
    by_cases hc2 : a1 = 1
    · rw [if_pos hc2] at h
      refine ay_t_br (pc := 1) (pc' := 72) (S' := []) fe_14_1 (by rw [hc2]; rfl) ?_
      refine ay_t_loc (pc := 72) fe_14_72 rfl ?_
      refine ay_t_getR (pc := 73) (w := .ref 1) fe_14_73 at_0 (by decide +kernel) rfl ?_
      refine ay_t_getR (pc := 76) (w := .ref 8) fe_14_76 at_1 (by decide +kernel) rfl ?_
      refine ay_t_getI (pc := 79) fe_14_79 at_8 (by decide +kernel) rfl ?_
      cases h
      exact ay_t_iret fe_14_82 rfl rfl
    · rw [if_neg hc2] at h
      by_cases hc3 : a1 = 2
      · rw [if_pos hc3] at h
        refine ay_t_br (pc := 1) (pc' := 83) (S' := []) fe_14_1 (by rw [hc3]; rfl) ?_
        refine ay_t_loc (pc := 83) fe_14_83 rfl ?_
        refine ay_t_getR (pc := 84) (w := .ref 1) fe_14_84 at_0 (by decide +kernel) rfl ?_
        refine ay_t_getI (pc := 87) fe_14_87 at_1 (by decide +kernel) rfl ?_
        cases h
        exact ay_t_iret fe_14_90 rfl rfl
      · rw [if_neg hc3] at h
        by_cases hc4 : a1 = 3
        · rw [if_pos hc4] at h
          refine ay_t_br (pc := 1) (pc' := 91) (S' := []) fe_14_1 (by rw [hc4]; rfl) ?_
          refine ay_t_loc (pc := 91) fe_14_91 rfl ?_
          refine ay_t_getR (pc := 92) (w := .ref 1) fe_14_92 at_0 (by decide +kernel) rfl ?_
          refine ay_t_getR (pc := 95) (w := .ref 19) fe_14_95 at_1 (by decide +kernel) rfl ?_
          refine ay_t_getI (pc := 98) fe_14_98 at_19 (by decide +kernel) rfl ?_
          cases h
          exact ay_t_iret fe_14_101 rfl rfl
        · rw [if_neg hc4] at h
          by_cases hc5 : a1 = 4
          · rw [if_pos hc5] at h
            refine ay_t_br (pc := 1) (pc' := 102) (S' := []) fe_14_1 (by rw [hc5]; rfl) ?_
            refine ay_t_loc (pc := 102) fe_14_102 rfl ?_
            refine ay_t_getR (pc := 103) (w := .ref 1) fe_14_103 at_0 (by decide +kernel) rfl ?_
            refine ay_t_getI (pc := 106) fe_14_106 at_1 (by decide +kernel) rfl ?_
            cases h
            exact ay_t_iret fe_14_109 rfl rfl
          · rw [if_neg hc5] at h
            by_cases hc6 : a1 = 5
            · rw [if_pos hc6] at h
              refine ay_t_br (pc := 1) (pc' := 110) (S' := []) fe_14_1 (by rw [hc6]; rfl) ?_
              refine ay_t_loc (pc := 110) fe_14_110 rfl ?_
              refine ay_t_getR (pc := 111) (w := .ref 1) fe_14_111 at_0 (by decide +kernel) rfl ?_
              refine ay_t_getR (pc := 114) (w := .ref 2) fe_14_114 at_1 (by decide +kernel) rfl ?_
              refine ay_t_stk (pc := 117) (S' := [.int 0, .ref 2]) fe_14_117 rfl ?_
              refine ay_t_call (pc := 118) (w := some (.int (rw_at (D 3) 2 0))) fe_14_118 (ay_args [.ref 2, .int 0] [] rfl rfl (Nat.le_of_ble_eq_true rfl) (Nat.le_of_ble_eq_true rfl)) (ay_rcvV at_2 rfl) (mt_at at_2 at_3 (by decide)) ?_
              cases h
              exact ay_t_iret fe_14_121 rfl rfl
            · rw [if_neg hc6] at h
              by_cases hc7 : a1 = 6
              · rw [if_pos hc7] at h
                refine ay_t_br (pc := 1) (pc' := 122) (S' := []) fe_14_1 (by rw [hc7]; rfl) ?_
                refine ay_t_loc (pc := 122) fe_14_122 rfl ?_
                refine ay_t_getR (pc := 123) (w := .ref 1) fe_14_123 at_0 (by decide +kernel) rfl ?_
                refine ay_t_getR (pc := 126) (w := .ref 2) fe_14_126 at_1 (by decide +kernel) rfl ?_
                refine ay_t_stk (pc := 129) (S' := [.int 1, .ref 2]) fe_14_129 rfl ?_
                refine ay_t_call (pc := 130) (w := some (.int (rw_at (D 3) 2 1))) fe_14_130 (ay_args [.ref 2, .int 1] [] rfl rfl (Nat.le_of_ble_eq_true rfl) (Nat.le_of_ble_eq_true rfl)) (ay_rcvV at_2 rfl) (mt_at at_2 at_3 (by decide)) ?_
                cases h
                exact ay_t_iret fe_14_133 rfl rfl
              · rw [if_neg hc7] at h
                by_cases hc8 : a1 = 7
                · rw [if_pos hc8] at h
                  refine ay_t_br (pc := 1) (pc' := 134) (S' := []) fe_14_1 (by rw [hc8]; rfl) ?_
                  refine ay_t_loc (pc := 134) fe_14_134 rfl ?_
                  refine ay_t_getR (pc := 135) (w := .ref 1) fe_14_135 at_0 (by decide +kernel) rfl ?_
                  refine ay_t_getI (pc := 138) fe_14_138 at_1 (by decide +kernel) rfl ?_
                  cases h
                  exact ay_t_iret fe_14_141 rfl rfl
                · rw [if_neg hc8] at h
                  by_cases hc9 : a1 = 8
                  · rw [if_pos hc9] at h
                    refine ay_t_br (pc := 1) (pc' := 142) (S' := []) fe_14_1 (by rw [hc9]; rfl) ?_
                    refine ay_t_loc (pc := 142) fe_14_142 rfl ?_
                    refine ay_t_getR (pc := 143) (w := .ref 1) fe_14_143 at_0 (by decide +kernel) rfl ?_
                    refine ay_t_getI (pc := 146) fe_14_146 at_1 (by decide +kernel) rfl ?_
                    cases h
                    exact ay_t_iret fe_14_149 rfl rfl
                  · rw [if_neg hc9] at h
                    by_cases hc10 : a1 = 9
                    · rw [if_pos hc10] at h
                      refine ay_t_br (pc := 1) (pc' := 150) (S' := []) fe_14_1 (by rw [hc10]; rfl) ?_
                      refine ay_t_loc (pc := 150) fe_14_150 rfl ?_
                      refine ay_t_getR (pc := 151) (w := .ref 1) fe_14_151 at_0 (by decide +kernel) rfl ?_
                      refine ay_t_getR (pc := 154) (w := .ref 26) fe_14_154 at_1 (by decide +kernel) rfl ?_
                      refine ay_t_getI (pc := 157) fe_14_157 at_26 (by decide +kernel) rfl ?_
                      cases h
                      exact ay_t_iret fe_14_160 rfl rfl
                    · rw [if_neg hc10] at h
                      by_cases hc11 : a1 = 10
                      · rw [if_pos hc11] at h
                        refine ay_t_br (pc := 1) (pc' := 161) (S' := []) fe_14_1 (by rw [hc11]; rfl) ?_
                        refine ay_t_loc (pc := 161) fe_14_161 rfl ?_
                        refine ay_t_getR (pc := 162) (w := .ref 56) fe_14_162 at_0 (by decide +kernel) rfl ?_
                        cases hk14 : fn_13 D with
                        | none => rw [hk14] at h; cases h
                        | some z =>
                          obtain ⟨y12, D13⟩ := z
                          rw [hk14] at h
                          dsimp only at h
                          refine ay_t_call (pc := 165) (w := some (.int y12)) fe_14_165 (ay_args [.ref 56] [] rfl rfl (Nat.le_of_ble_eq_true rfl) (Nat.le_of_ble_eq_true rfl)) (ay_rcvV at_56 rfl) (ev_13 hk14) ?_
                          cases h
                          exact ay_t_iret fe_14_168 rfl rfl
                      · rw [if_neg hc11] at h
                        by_cases hc15 : a1 = 11
                        · rw [if_pos hc15] at h
                          refine ay_t_br (pc := 1) (pc' := 169) (S' := []) fe_14_1 (by rw [hc15]; rfl) ?_
                          refine ay_t_loc (pc := 169) fe_14_169 rfl ?_
                          refine ay_t_getR (pc := 170) (w := .ref 45) fe_14_170 at_0 (by decide +kernel) rfl ?_
                          refine ay_t_getI (pc := 173) fe_14_173 at_45 (by decide +kernel) rfl ?_
                          cases h
                          exact ay_t_iret fe_14_176 rfl rfl
                        · rw [if_neg hc15] at h
                          refine ay_t_br (pc := 1) (pc' := 177) fe_14_1 (ay_tab_def (by have z0 := ay_ne_toInt (c := 0) hc1 (by decide); have z1 := ay_ne_toInt (c := 1) hc2 (by decide); have z2 := ay_ne_toInt (c := 2) hc3 (by decide); have z3 := ay_ne_toInt (c := 3) hc4 (by decide); have z4 := ay_ne_toInt (c := 4) hc5 (by decide); have z5 := ay_ne_toInt (c := 5) hc6 (by decide); have z6 := ay_ne_toInt (c := 6) hc7 (by decide); have z7 := ay_ne_toInt (c := 7) hc8 (by decide); have z8 := ay_ne_toInt (c := 8) hc9 (by decide); have z9 := ay_ne_toInt (c := 9) hc10 (by decide); have z10 := ay_ne_toInt (c := 10) hc11 (by decide); have z11 := ay_ne_toInt (c := 11) hc15 (by decide); omega) rfl) ?_
                          cases h
                          exact ay_t_thr fe_14_177 (by decide)
def fn_16 (a1 : Int32) (D : am_DD) : Option (Int32 × am_DD) := some ((((D 26 0) + a1) - ((D 26 0) + a1) / 60 * 60), D)
set_option maxHeartbeats 2000000 in
theorem ev_16 {a1 : Int32} {D : am_DD} {y : Int32} {Z : am_DD} (h : fn_16 a1 D = some (y, Z)) : ay_mo 16 [.ref 26, .int a1] D (.inl (some (.int y))) Z := by
  unfold fn_16 at h
  refine ay_m_of (L := [some (.ref 26), some (.int a1)]) rfl ?_
  refine ay_t_loc (pc := 0) fe_16_0 rfl ?_
  refine ay_t_getI (pc := 1) fe_16_1 at_26 (by decide +kernel) rfl ?_
  refine ay_t_loc (pc := 4) fe_16_4 rfl ?_
  refine ay_t_stk (pc := 5) (S' := [.int ((D 26 0) + a1)]) fe_16_5 rfl ?_
  refine ay_t_stk (pc := 6) (S' := [.int 60, .int ((D 26 0) + a1)]) fe_16_6 rfl ?_
  refine ay_t_stk (pc := 8) (S' := [.int (((D 26 0) + a1) - ((D 26 0) + a1) / 60 * 60)]) fe_16_8 (ay_irem (by decide)) ?_
  cases h
  exact ay_t_iret fe_16_9 rfl rfl
def fn_17 (a1 : Int32) (D : am_DD) : Option (Int32 × am_DD) := (match fn_16 a1 D with | none => none | some (y1, D2) => some ((rw_at (D2 32) 60 y1), D2))
set_option maxHeartbeats 2000000 in
theorem ev_17 {a1 : Int32} {D : am_DD} {y : Int32} {Z : am_DD} (h : fn_17 a1 D = some (y, Z)) : ay_mo 17 [.ref 26, .int a1] D (.inl (some (.int y))) Z := by
  unfold fn_17 at h
  refine ay_m_of (L := [some (.ref 26), some (.int a1)]) rfl ?_
  refine ay_t_loc (pc := 0) fe_17_0 rfl ?_
  refine ay_t_getR (pc := 1) (w := .ref 31) fe_17_1 at_26 (by decide +kernel) rfl ?_
  refine ay_t_loc (pc := 4) fe_17_4 rfl ?_
  refine ay_t_loc (pc := 5) fe_17_5 rfl ?_
  cases hk3 : fn_16 a1 D with
  | none => rw [hk3] at h; cases h
  | some z =>
    obtain ⟨y1, D2⟩ := z
    rw [hk3] at h
    dsimp only at h
    refine ay_t_call (pc := 6) (w := some (.int y1)) fe_17_6 (ay_args [.ref 26, .int a1] [.ref 31] rfl rfl (Nat.le_of_ble_eq_true rfl) (Nat.le_of_ble_eq_true rfl)) (ay_rcvV at_26 rfl) (ev_16 hk3) ?_
    refine ay_t_call (pc := 9) (w := some (.int (rw_at (D2 32) 60 y1))) fe_17_9 (ay_args [.ref 31, .int y1] [] rfl rfl (Nat.le_of_ble_eq_true rfl) (Nat.le_of_ble_eq_true rfl)) (ay_rcvV at_31 rfl) (mt_at at_31 at_32 (by decide)) ?_
    cases h
    exact ay_t_iret fe_17_12 rfl rfl
def fn_19_9 : Nat → Int32 → am_DD → Option (Int32 × am_DD)
  | 0, _, _ => none
  | n + 1, x1, D => (if (D 26 1) ≤ x1 then some (0, D) else (match fn_17 x1 D with | none => none | some (y2, D3) => fn_19_9 n (x1 + 1) (rw_raise D3 42 31 y2 1)))
set_option maxHeartbeats 2000000 in
theorem ev_19_9 : ∀ (n : Nat) (x1 : Int32) (D : am_DD) (y : Int32) (Z : am_DD), fn_19_9 n x1 D = some (y, Z) → ay_to 19 9 [some (.ref 40), some (.int x1)] [] D (.inl none) Z := by
  intro n
  induction n with
  | zero => intro x1 D y Z h; cases h
  | succ n ih =>
    intro x1 D y Z h
    rw [fn_19_9] at h
    refine ay_t_loc (pc := 9) fe_19_9 rfl ?_
    refine ay_t_loc (pc := 10) fe_19_10 rfl ?_
    refine ay_t_getR (pc := 11) (w := .ref 26) fe_19_11 at_40 (by decide +kernel) rfl ?_
    refine ay_t_getI (pc := 14) fe_19_14 at_26 (by decide +kernel) rfl ?_
    by_cases hc1 : (D 26 1) ≤ x1
    · rw [if_pos hc1] at h
      refine ay_t_pos (pc := 17) hc1 fe_19_17 rfl ?_
      cases h
      exact ay_t_vret fe_19_42 rfl
    · rw [if_neg hc1] at h
      refine ay_t_neg (pc := 17) hc1 fe_19_17 rfl ?_
      refine ay_t_loc (pc := 20) fe_19_20 rfl ?_
      refine ay_t_getR (pc := 21) (w := .ref 41) fe_19_21 at_40 (by decide +kernel) rfl ?_
      refine ay_t_loc (pc := 24) fe_19_24 rfl ?_
      refine ay_t_getR (pc := 25) (w := .ref 26) fe_19_25 at_40 (by decide +kernel) rfl ?_
      refine ay_t_loc (pc := 28) fe_19_28 rfl ?_
      cases hk4 : fn_17 x1 D with
      | none => rw [hk4] at h; cases h
      | some z =>
        obtain ⟨y2, D3⟩ := z
        rw [hk4] at h
        dsimp only at h
        refine ay_t_call (pc := 29) (w := some (.int y2)) fe_19_29 (ay_args [.ref 26, .int x1] [.ref 41] rfl rfl (Nat.le_of_ble_eq_true rfl) (Nat.le_of_ble_eq_true rfl)) (ay_rcvV at_26 rfl) (ev_17 hk4) ?_
        refine ay_t_stk (pc := 32) (S' := [.int 1, .int y2, .ref 41]) fe_19_32 rfl ?_
        refine ay_t_call (pc := 33) (w := none) fe_19_33 (ay_args [.ref 41, .int y2, .int 1] [] rfl rfl (Nat.le_of_ble_eq_true rfl) (Nat.le_of_ble_eq_true rfl)) (ay_rcvV at_41 rfl) (mt_raise at_41 at_42 (by decide)) ?_
        refine ay_t_loc (pc := 36) (L' := [some (.ref 40), some (.int (x1 + 1))]) fe_19_36 rfl ?_
        refine ay_t_br (pc := 39) (pc' := 9) fe_19_39 rfl ?_
        exact ay_t_less (ay_ls (ay_ls ay_l0)) (ih _ _ _ _ h)
def fn_19 (D : am_DD) : Option (Int32 × am_DD) := fn_19_9 am_F 0 (rw_wipe D 42 31)
set_option maxHeartbeats 2000000 in
theorem ev_19 {D : am_DD} {y : Int32} {Z : am_DD} (h : fn_19  D = some (y, Z)) : ay_mo 19 [.ref 40] D (.inl none) Z := by
  unfold fn_19 at h
  refine ay_m_of (L := [some (.ref 40), none]) rfl ?_
  refine ay_t_loc (pc := 0) fe_19_0 rfl ?_
  refine ay_t_getR (pc := 1) (w := .ref 41) fe_19_1 at_40 (by decide +kernel) rfl ?_
  refine ay_t_call (pc := 4) (w := none) fe_19_4 (ay_args [.ref 41] [] rfl rfl (Nat.le_of_ble_eq_true rfl) (Nat.le_of_ble_eq_true rfl)) (ay_rcvV at_41 rfl) (mt_wipe at_41 at_42 (by decide)) ?_
  refine ay_t_stk (pc := 7) (S' := [.int 0]) fe_19_7 rfl ?_
  refine ay_t_loc (pc := 8) (L' := [some (.ref 40), some (.int 0)]) fe_19_8 rfl ?_
  exact ay_t_less (ay_ls (ay_ls ay_l0)) (ev_19_9 _ _ _ _ _ h)
def fn_20_8 : Nat → Int32 → Int32 → am_DD → Option (Int32 × am_DD)
  | 0, _, _, _ => none
  | n + 1, x1, x2, D => (if 31 ≤ x2 then some (x1, D) else (if (rw_at (D 42) 31 x2) ≤ 0 then fn_20_8 n (x1 + 0) (x2 + 1) D else fn_20_8 n (x1 + 1) (x2 + 1) D))
set_option maxHeartbeats 2000000 in
theorem ev_20_8 : ∀ (n : Nat) (x1 x2 : Int32) (D : am_DD) (y : Int32) (Z : am_DD), fn_20_8 n x1 x2 D = some (y, Z) → ay_to 20 8 [some (.ref 40), some (.int x1), some (.int x2)] [] D (.inl (some (.int y))) Z := by
  intro n
  induction n with
  | zero => intro x1 x2 D y Z h; cases h
  | succ n ih =>
    intro x1 x2 D y Z h
    rw [fn_20_8] at h
    refine ay_t_loc (pc := 8) fe_20_8 rfl ?_
    refine ay_t_stk (pc := 9) (S' := [.int 31, .int x2]) fe_20_9 rfl ?_
    by_cases hc4 : 31 ≤ x2
    · rw [if_pos hc4] at h
      refine ay_t_pos (pc := 11) hc4 fe_20_11 rfl ?_
      refine ay_t_loc (pc := 39) fe_20_39 rfl ?_
      cases h
      exact ay_t_iret fe_20_40 rfl rfl
    · rw [if_neg hc4] at h
      refine ay_t_neg (pc := 11) hc4 fe_20_11 rfl ?_
      refine ay_t_loc (pc := 14) fe_20_14 rfl ?_
      refine ay_t_loc (pc := 15) fe_20_15 rfl ?_
      refine ay_t_getR (pc := 16) (w := .ref 41) fe_20_16 at_40 (by decide +kernel) rfl ?_
      refine ay_t_loc (pc := 19) fe_20_19 rfl ?_
      refine ay_t_call (pc := 20) (w := some (.int (rw_at (D 42) 31 x2))) fe_20_20 (ay_args [.ref 41, .int x2] [.int x1] rfl rfl (Nat.le_of_ble_eq_true rfl) (Nat.le_of_ble_eq_true rfl)) (ay_rcvV at_41 rfl) (mt_at at_41 at_42 (by decide)) ?_
      by_cases hc5 : (rw_at (D 42) 31 x2) ≤ 0
      · rw [if_pos hc5] at h
        refine ay_t_pos (pc := 23) hc5 fe_20_23 rfl ?_
        refine ay_t_stk (pc := 30) (S' := [.int 0, .int x1]) fe_20_30 rfl ?_
        refine ay_t_stk (pc := 31) (S' := [.int (x1 + 0)]) fe_20_31 rfl ?_
        refine ay_t_loc (pc := 32) (L' := [some (.ref 40), some (.int (x1 + 0)), some (.int x2)]) fe_20_32 rfl ?_
        refine ay_t_loc (pc := 33) (L' := [some (.ref 40), some (.int (x1 + 0)), some (.int (x2 + 1))]) fe_20_33 rfl ?_
        refine ay_t_br (pc := 36) (pc' := 8) fe_20_36 rfl ?_
        exact ay_t_less (ay_ls (ay_ls (ay_ls ay_l0))) (ih _ _ _ _ _ h)
      · rw [if_neg hc5] at h
        refine ay_t_neg (pc := 23) hc5 fe_20_23 rfl ?_
        refine ay_t_stk (pc := 26) (S' := [.int 1, .int x1]) fe_20_26 rfl ?_
        refine ay_t_br (pc := 27) (pc' := 31) fe_20_27 rfl ?_
        refine ay_t_stk (pc := 31) (S' := [.int (x1 + 1)]) fe_20_31 rfl ?_
        refine ay_t_loc (pc := 32) (L' := [some (.ref 40), some (.int (x1 + 1)), some (.int x2)]) fe_20_32 rfl ?_
        refine ay_t_loc (pc := 33) (L' := [some (.ref 40), some (.int (x1 + 1)), some (.int (x2 + 1))]) fe_20_33 rfl ?_
        refine ay_t_br (pc := 36) (pc' := 8) fe_20_36 rfl ?_
        exact ay_t_less (ay_ls (ay_ls (ay_ls ay_l0))) (ih _ _ _ _ _ h)
def fn_20 (D : am_DD) : Option (Int32 × am_DD) := (match fn_19 D with | none => none | some (y1, D2) => fn_20_8 am_F 0 0 D2)
set_option maxHeartbeats 2000000 in
theorem ev_20 {D : am_DD} {y : Int32} {Z : am_DD} (h : fn_20  D = some (y, Z)) : ay_mo 20 [.ref 40] D (.inl (some (.int y))) Z := by
  unfold fn_20 at h
  refine ay_m_of (L := [some (.ref 40), none, none]) rfl ?_
  refine ay_t_loc (pc := 0) fe_20_0 rfl ?_
  cases hk3 : fn_19 D with
  | none => rw [hk3] at h; cases h
  | some z =>
    obtain ⟨y1, D2⟩ := z
    rw [hk3] at h
    dsimp only at h
    refine ay_t_call (pc := 1) (w := none) fe_20_1 (ay_args [.ref 40] [] rfl rfl (Nat.le_of_ble_eq_true rfl) (Nat.le_of_ble_eq_true rfl)) (ay_rcvV at_40 rfl) (ev_19 hk3) ?_
    refine ay_t_stk (pc := 4) (S' := [.int 0]) fe_20_4 rfl ?_
    refine ay_t_loc (pc := 5) (L' := [some (.ref 40), some (.int 0), none]) fe_20_5 rfl ?_
    refine ay_t_stk (pc := 6) (S' := [.int 0]) fe_20_6 rfl ?_
    refine ay_t_loc (pc := 7) (L' := [some (.ref 40), some (.int 0), some (.int 0)]) fe_20_7 rfl ?_
    exact ay_t_less (ay_ls (ay_ls (ay_ls ay_l0))) (ev_20_8 _ _ _ _ _ _ h)
def fn_21_20 : Nat → Int32 → Int32 → am_DD → Option (Int32 × am_DD)
  | 0, _, _, _ => none
  | n + 1, x1, x2, D => (if 31 ≤ x2 then some (x1, D) else (if (rw_at (D 42) 31 x2) ≤ (rw_at (D 42) 31 x1) then fn_21_20 n x1 (x2 + 1) D else fn_21_20 n x2 (x2 + 1) D))
set_option maxHeartbeats 2000000 in
theorem ev_21_20 : ∀ (n : Nat) (x1 x2 : Int32) (D : am_DD) (y : Int32) (Z : am_DD), fn_21_20 n x1 x2 D = some (y, Z) → ay_to 21 20 [some (.ref 40), some (.int x1), some (.int x2)] [] D (.inl (some (.int y))) Z := by
  intro n
  induction n with
  | zero => intro x1 x2 D y Z h; cases h
  | succ n ih =>
    intro x1 x2 D y Z h
    rw [fn_21_20] at h
    refine ay_t_loc (pc := 20) fe_21_20 rfl ?_
    refine ay_t_stk (pc := 21) (S' := [.int 31, .int x2]) fe_21_21 rfl ?_
    by_cases hc5 : 31 ≤ x2
    · rw [if_pos hc5] at h
      refine ay_t_pos (pc := 23) hc5 fe_21_23 rfl ?_
      refine ay_t_loc (pc := 53) fe_21_53 rfl ?_
      cases h
      exact ay_t_iret fe_21_54 rfl rfl
    · rw [if_neg hc5] at h
      refine ay_t_neg (pc := 23) hc5 fe_21_23 rfl ?_
      refine ay_t_loc (pc := 26) fe_21_26 rfl ?_
      refine ay_t_getR (pc := 27) (w := .ref 41) fe_21_27 at_40 (by decide +kernel) rfl ?_
      refine ay_t_loc (pc := 30) fe_21_30 rfl ?_
      refine ay_t_call (pc := 31) (w := some (.int (rw_at (D 42) 31 x2))) fe_21_31 (ay_args [.ref 41, .int x2] [] rfl rfl (Nat.le_of_ble_eq_true rfl) (Nat.le_of_ble_eq_true rfl)) (ay_rcvV at_41 rfl) (mt_at at_41 at_42 (by decide)) ?_
      refine ay_t_loc (pc := 34) fe_21_34 rfl ?_
      refine ay_t_getR (pc := 35) (w := .ref 41) fe_21_35 at_40 (by decide +kernel) rfl ?_
      refine ay_t_loc (pc := 38) fe_21_38 rfl ?_
      refine ay_t_call (pc := 39) (w := some (.int (rw_at (D 42) 31 x1))) fe_21_39 (ay_args [.ref 41, .int x1] [.int (rw_at (D 42) 31 x2)] rfl rfl (Nat.le_of_ble_eq_true rfl) (Nat.le_of_ble_eq_true rfl)) (ay_rcvV at_41 rfl) (mt_at at_41 at_42 (by decide)) ?_
      by_cases hc6 : (rw_at (D 42) 31 x2) ≤ (rw_at (D 42) 31 x1)
      · rw [if_pos hc6] at h
        refine ay_t_pos (pc := 42) hc6 fe_21_42 rfl ?_
        refine ay_t_loc (pc := 47) (L' := [some (.ref 40), some (.int x1), some (.int (x2 + 1))]) fe_21_47 rfl ?_
        refine ay_t_br (pc := 50) (pc' := 20) fe_21_50 rfl ?_
        exact ay_t_less (ay_ls (ay_ls (ay_ls ay_l0))) (ih _ _ _ _ _ h)
      · rw [if_neg hc6] at h
        refine ay_t_neg (pc := 42) hc6 fe_21_42 rfl ?_
        refine ay_t_loc (pc := 45) fe_21_45 rfl ?_
        refine ay_t_loc (pc := 46) (L' := [some (.ref 40), some (.int x2), some (.int x2)]) fe_21_46 rfl ?_
        refine ay_t_loc (pc := 47) (L' := [some (.ref 40), some (.int x2), some (.int (x2 + 1))]) fe_21_47 rfl ?_
        refine ay_t_br (pc := 50) (pc' := 20) fe_21_50 rfl ?_
        exact ay_t_less (ay_ls (ay_ls (ay_ls ay_l0))) (ih _ _ _ _ _ h)
def fn_21 (D : am_DD) : Option (Int32 × am_DD) := (if ¬ (D 26 1) = 0 then (match fn_19 D with | none => none | some (y2, D3) => fn_21_20 am_F 0 1 D3) else some ((-1), D))
set_option maxHeartbeats 2000000 in
theorem ev_21 {D : am_DD} {y : Int32} {Z : am_DD} (h : fn_21  D = some (y, Z)) : ay_mo 21 [.ref 40] D (.inl (some (.int y))) Z := by
  unfold fn_21 at h
  refine ay_m_of (L := [some (.ref 40), none, none]) rfl ?_
  refine ay_t_loc (pc := 0) fe_21_0 rfl ?_
  refine ay_t_getR (pc := 1) (w := .ref 26) fe_21_1 at_40 (by decide +kernel) rfl ?_
  refine ay_t_getI (pc := 4) fe_21_4 at_26 (by decide +kernel) rfl ?_
  by_cases hc1 : ¬ (D 26 1) = 0
  · rw [if_pos hc1] at h
    refine ay_t_pos (pc := 7) hc1 fe_21_7 rfl ?_
    refine ay_t_loc (pc := 12) fe_21_12 rfl ?_
    cases hk4 : fn_19 D with
    | none => rw [hk4] at h; cases h
    | some z =>
      obtain ⟨y2, D3⟩ := z
      rw [hk4] at h
      dsimp only at h
      refine ay_t_call (pc := 13) (w := none) fe_21_13 (ay_args [.ref 40] [] rfl rfl (Nat.le_of_ble_eq_true rfl) (Nat.le_of_ble_eq_true rfl)) (ay_rcvV at_40 rfl) (ev_19 hk4) ?_
      refine ay_t_stk (pc := 16) (S' := [.int 0]) fe_21_16 rfl ?_
      refine ay_t_loc (pc := 17) (L' := [some (.ref 40), some (.int 0), none]) fe_21_17 rfl ?_
      refine ay_t_stk (pc := 18) (S' := [.int 1]) fe_21_18 rfl ?_
      refine ay_t_loc (pc := 19) (L' := [some (.ref 40), some (.int 0), some (.int 1)]) fe_21_19 rfl ?_
      exact ay_t_less (ay_ls (ay_ls (ay_ls ay_l0))) (ev_21_20 _ _ _ _ _ _ h)
  · rw [if_neg hc1] at h
    refine ay_t_neg (pc := 7) hc1 fe_21_7 rfl ?_
    refine ay_t_stk (pc := 10) (S' := [.int (-1)]) fe_21_10 rfl ?_
    cases h
    exact ay_t_iret fe_21_11 rfl rfl
def fn_22 (a1 : Int32) (D : am_DD) : Option (Int32 × am_DD) := (match fn_16 a1 D with | none => none | some (y1, D2) => some ((rw_at (D2 28) 60 y1), D2))
set_option maxHeartbeats 2000000 in
theorem ev_22 {a1 : Int32} {D : am_DD} {y : Int32} {Z : am_DD} (h : fn_22 a1 D = some (y, Z)) : ay_mo 22 [.ref 26, .int a1] D (.inl (some (.int y))) Z := by
  unfold fn_22 at h
  refine ay_m_of (L := [some (.ref 26), some (.int a1)]) rfl ?_
  refine ay_t_loc (pc := 0) fe_22_0 rfl ?_
  refine ay_t_getR (pc := 1) (w := .ref 27) fe_22_1 at_26 (by decide +kernel) rfl ?_
  refine ay_t_loc (pc := 4) fe_22_4 rfl ?_
  refine ay_t_loc (pc := 5) fe_22_5 rfl ?_
  cases hk3 : fn_16 a1 D with
  | none => rw [hk3] at h; cases h
  | some z =>
    obtain ⟨y1, D2⟩ := z
    rw [hk3] at h
    dsimp only at h
    refine ay_t_call (pc := 6) (w := some (.int y1)) fe_22_6 (ay_args [.ref 26, .int a1] [.ref 27] rfl rfl (Nat.le_of_ble_eq_true rfl) (Nat.le_of_ble_eq_true rfl)) (ay_rcvV at_26 rfl) (ev_16 hk3) ?_
    refine ay_t_call (pc := 9) (w := some (.int (rw_at (D2 28) 60 y1))) fe_22_9 (ay_args [.ref 27, .int y1] [] rfl rfl (Nat.le_of_ble_eq_true rfl) (Nat.le_of_ble_eq_true rfl)) (ay_rcvV at_27 rfl) (mt_at at_27 at_28 (by decide)) ?_
    cases h
    exact ay_t_iret fe_22_12 rfl rfl
def fn_23_9 : Nat → Int32 → Int32 → am_DD → Option (Int32 × am_DD)
  | 0, _, _, _ => none
  | n + 1, x1, x2, D => (if (D 26 1) ≤ x2 then some (0, D) else (match fn_17 x2 D with | none => none | some (y2, D3) => (if x2 = ((D3 26 1) - 1) then fn_23_9 n 0 (x2 + 1) (am_upd (rw_put D3 44 60 (D3 40 3) (x1 ||| (1 <<< (y2 &&& 31)))) 40 3 (((rw_put D3 44 60 (D3 40 3) (x1 ||| (1 <<< (y2 &&& 31)))) 40 3) + 1)) else (match fn_22 (x2 + 1) D3 with | none => none | some (y6, D7) => (match fn_22 x2 D7 with | none => none | some (y9, D10) => (if y6 = y9 then fn_23_9 n (x1 ||| (1 <<< (y2 &&& 31))) (x2 + 1) D10 else fn_23_9 n 0 (x2 + 1) (am_upd (rw_put D10 44 60 (D10 40 3) (x1 ||| (1 <<< (y2 &&& 31)))) 40 3 (((rw_put D10 44 60 (D10 40 3) (x1 ||| (1 <<< (y2 &&& 31)))) 40 3) + 1))))))))
set_option maxHeartbeats 2000000 in
theorem ev_23_9 : ∀ (n : Nat) (x1 x2 : Int32) (D : am_DD) (y : Int32) (Z : am_DD), fn_23_9 n x1 x2 D = some (y, Z) → ay_to 23 9 [some (.ref 40), some (.int x1), some (.int x2)] [] D (.inl none) Z := by
  intro n
  induction n with
  | zero => intro x1 x2 D y Z h; cases h
  | succ n ih =>
    intro x1 x2 D y Z h
    rw [fn_23_9] at h
    refine ay_t_loc (pc := 9) fe_23_9 rfl ?_
    refine ay_t_loc (pc := 10) fe_23_10 rfl ?_
    refine ay_t_getR (pc := 11) (w := .ref 26) fe_23_11 at_40 (by decide +kernel) rfl ?_
    refine ay_t_getI (pc := 14) fe_23_14 at_26 (by decide +kernel) rfl ?_
    by_cases hc1 : (D 26 1) ≤ x2
    · rw [if_pos hc1] at h
      refine ay_t_pos (pc := 17) hc1 fe_23_17 rfl ?_
      cases h
      exact ay_t_vret fe_23_97 rfl
    · rw [if_neg hc1] at h
      refine ay_t_neg (pc := 17) hc1 fe_23_17 rfl ?_
      refine ay_t_loc (pc := 20) fe_23_20 rfl ?_
      refine ay_t_stk (pc := 21) (S' := [.int 1, .int x1]) fe_23_21 rfl ?_
      refine ay_t_loc (pc := 22) fe_23_22 rfl ?_
      refine ay_t_getR (pc := 23) (w := .ref 26) fe_23_23 at_40 (by decide +kernel) rfl ?_
      refine ay_t_loc (pc := 26) fe_23_26 rfl ?_
      cases hk4 : fn_17 x2 D with
      | none => rw [hk4] at h; cases h
      | some z =>
        obtain ⟨y2, D3⟩ := z
        rw [hk4] at h
        dsimp only at h
        refine ay_t_call (pc := 27) (w := some (.int y2)) fe_23_27 (ay_args [.ref 26, .int x2] [.int 1, .int x1] rfl rfl (Nat.le_of_ble_eq_true rfl) (Nat.le_of_ble_eq_true rfl)) (ay_rcvV at_26 rfl) (ev_17 hk4) ?_
        refine ay_t_stk (pc := 30) (S' := [.int (1 <<< (y2 &&& 31)), .int x1]) fe_23_30 rfl ?_
        refine ay_t_stk (pc := 31) (S' := [.int (x1 ||| (1 <<< (y2 &&& 31)))]) fe_23_31 rfl ?_
        refine ay_t_loc (pc := 32) (L' := [some (.ref 40), some (.int (x1 ||| (1 <<< (y2 &&& 31)))), some (.int x2)]) fe_23_32 rfl ?_
        refine ay_t_loc (pc := 33) fe_23_33 rfl ?_
        refine ay_t_loc (pc := 34) fe_23_34 rfl ?_
        refine ay_t_getR (pc := 35) (w := .ref 26) fe_23_35 at_40 (by decide +kernel) rfl ?_
        refine ay_t_getI (pc := 38) fe_23_38 at_26 (by decide +kernel) rfl ?_
        refine ay_t_stk (pc := 41) (S' := [.int 1, .int (D3 26 1), .int x2]) fe_23_41 rfl ?_
        refine ay_t_stk (pc := 42) (S' := [.int ((D3 26 1) - 1), .int x2]) fe_23_42 rfl ?_
        by_cases hc5 : x2 = ((D3 26 1) - 1)
        · rw [if_pos hc5] at h
          refine ay_t_pos (pc := 43) hc5 fe_23_43 rfl ?_
          refine ay_t_loc (pc := 67) fe_23_67 rfl ?_
          refine ay_t_getR (pc := 68) (w := .ref 43) fe_23_68 at_40 (by decide +kernel) rfl ?_
          refine ay_t_loc (pc := 71) fe_23_71 rfl ?_
          refine ay_t_getI (pc := 72) fe_23_72 at_40 (by decide +kernel) rfl ?_
          refine ay_t_loc (pc := 75) fe_23_75 rfl ?_
          refine ay_t_call (pc := 76) (w := none) fe_23_76 (ay_args [.ref 43, .int (D3 40 3), .int (x1 ||| (1 <<< (y2 &&& 31)))] [] rfl rfl (Nat.le_of_ble_eq_true rfl) (Nat.le_of_ble_eq_true rfl)) (ay_rcvV at_43 rfl) (mt_put at_43 at_44 (by decide)) ?_
          refine ay_t_loc (pc := 79) fe_23_79 rfl ?_
          refine ay_t_stk (pc := 80) (S' := [.ref 40, .ref 40]) fe_23_80 rfl ?_
          refine ay_t_getI (pc := 81) fe_23_81 at_40 (by decide +kernel) rfl ?_
          refine ay_t_stk (pc := 84) (S' := [.int 1, .int ((rw_put D3 44 60 (D3 40 3) (x1 ||| (1 <<< (y2 &&& 31)))) 40 3), .ref 40]) fe_23_84 rfl ?_
          refine ay_t_stk (pc := 85) (S' := [.int (((rw_put D3 44 60 (D3 40 3) (x1 ||| (1 <<< (y2 &&& 31)))) 40 3) + 1), .ref 40]) fe_23_85 rfl ?_
          refine ay_t_put (pc := 86) fe_23_86 at_40 (by decide +kernel) rfl rfl ?_
          refine ay_t_stk (pc := 89) (S' := [.int 0]) fe_23_89 rfl ?_
          refine ay_t_loc (pc := 90) (L' := [some (.ref 40), some (.int 0), some (.int x2)]) fe_23_90 rfl ?_
          refine ay_t_loc (pc := 91) (L' := [some (.ref 40), some (.int 0), some (.int (x2 + 1))]) fe_23_91 rfl ?_
          refine ay_t_br (pc := 94) (pc' := 9) fe_23_94 rfl ?_
          exact ay_t_less (ay_ls (ay_ls (ay_ls ay_l0))) (ih _ _ _ _ _ h)
        · rw [if_neg hc5] at h
          refine ay_t_neg (pc := 43) hc5 fe_23_43 rfl ?_
          refine ay_t_loc (pc := 46) fe_23_46 rfl ?_
          refine ay_t_getR (pc := 47) (w := .ref 26) fe_23_47 at_40 (by decide +kernel) rfl ?_
          refine ay_t_loc (pc := 50) fe_23_50 rfl ?_
          refine ay_t_stk (pc := 51) (S' := [.int 1, .int x2, .ref 26]) fe_23_51 rfl ?_
          refine ay_t_stk (pc := 52) (S' := [.int (x2 + 1), .ref 26]) fe_23_52 rfl ?_
          cases hk8 : fn_22 (x2 + 1) D3 with
          | none => rw [hk8] at h; cases h
          | some z =>
            obtain ⟨y6, D7⟩ := z
            rw [hk8] at h
            dsimp only at h
            refine ay_t_call (pc := 53) (w := some (.int y6)) fe_23_53 (ay_args [.ref 26, .int (x2 + 1)] [] rfl rfl (Nat.le_of_ble_eq_true rfl) (Nat.le_of_ble_eq_true rfl)) (ay_rcvV at_26 rfl) (ev_22 hk8) ?_
            refine ay_t_loc (pc := 56) fe_23_56 rfl ?_
            refine ay_t_getR (pc := 57) (w := .ref 26) fe_23_57 at_40 (by decide +kernel) rfl ?_
            refine ay_t_loc (pc := 60) fe_23_60 rfl ?_
            cases hk11 : fn_22 x2 D7 with
            | none => rw [hk11] at h; cases h
            | some z =>
              obtain ⟨y9, D10⟩ := z
              rw [hk11] at h
              dsimp only at h
              refine ay_t_call (pc := 61) (w := some (.int y9)) fe_23_61 (ay_args [.ref 26, .int x2] [.int y6] rfl rfl (Nat.le_of_ble_eq_true rfl) (Nat.le_of_ble_eq_true rfl)) (ay_rcvV at_26 rfl) (ev_22 hk11) ?_
              by_cases hc12 : y6 = y9
              · rw [if_pos hc12] at h
                refine ay_t_pos (pc := 64) hc12 fe_23_64 rfl ?_
                refine ay_t_loc (pc := 91) (L' := [some (.ref 40), some (.int (x1 ||| (1 <<< (y2 &&& 31)))), some (.int (x2 + 1))]) fe_23_91 rfl ?_
                refine ay_t_br (pc := 94) (pc' := 9) fe_23_94 rfl ?_
                exact ay_t_less (ay_ls (ay_ls (ay_ls ay_l0))) (ih _ _ _ _ _ h)
              · rw [if_neg hc12] at h
                refine ay_t_neg (pc := 64) hc12 fe_23_64 rfl ?_
                refine ay_t_loc (pc := 67) fe_23_67 rfl ?_
                refine ay_t_getR (pc := 68) (w := .ref 43) fe_23_68 at_40 (by decide +kernel) rfl ?_
                refine ay_t_loc (pc := 71) fe_23_71 rfl ?_
                refine ay_t_getI (pc := 72) fe_23_72 at_40 (by decide +kernel) rfl ?_
                refine ay_t_loc (pc := 75) fe_23_75 rfl ?_
                refine ay_t_call (pc := 76) (w := none) fe_23_76 (ay_args [.ref 43, .int (D10 40 3), .int (x1 ||| (1 <<< (y2 &&& 31)))] [] rfl rfl (Nat.le_of_ble_eq_true rfl) (Nat.le_of_ble_eq_true rfl)) (ay_rcvV at_43 rfl) (mt_put at_43 at_44 (by decide)) ?_
                refine ay_t_loc (pc := 79) fe_23_79 rfl ?_
                refine ay_t_stk (pc := 80) (S' := [.ref 40, .ref 40]) fe_23_80 rfl ?_
                refine ay_t_getI (pc := 81) fe_23_81 at_40 (by decide +kernel) rfl ?_
                refine ay_t_stk (pc := 84) (S' := [.int 1, .int ((rw_put D10 44 60 (D10 40 3) (x1 ||| (1 <<< (y2 &&& 31)))) 40 3), .ref 40]) fe_23_84 rfl ?_
                refine ay_t_stk (pc := 85) (S' := [.int (((rw_put D10 44 60 (D10 40 3) (x1 ||| (1 <<< (y2 &&& 31)))) 40 3) + 1), .ref 40]) fe_23_85 rfl ?_
                refine ay_t_put (pc := 86) fe_23_86 at_40 (by decide +kernel) rfl rfl ?_
                refine ay_t_stk (pc := 89) (S' := [.int 0]) fe_23_89 rfl ?_
                refine ay_t_loc (pc := 90) (L' := [some (.ref 40), some (.int 0), some (.int x2)]) fe_23_90 rfl ?_
                refine ay_t_loc (pc := 91) (L' := [some (.ref 40), some (.int 0), some (.int (x2 + 1))]) fe_23_91 rfl ?_
                refine ay_t_br (pc := 94) (pc' := 9) fe_23_94 rfl ?_
                exact ay_t_less (ay_ls (ay_ls (ay_ls ay_l0))) (ih _ _ _ _ _ h)
def fn_23 (D : am_DD) : Option (Int32 × am_DD) := fn_23_9 am_F 0 0 (am_upd D 40 3 0)
set_option maxHeartbeats 2000000 in
theorem ev_23 {D : am_DD} {y : Int32} {Z : am_DD} (h : fn_23  D = some (y, Z)) : ay_mo 23 [.ref 40] D (.inl none) Z := by
  unfold fn_23 at h
  refine ay_m_of (L := [some (.ref 40), none, none]) rfl ?_
  refine ay_t_loc (pc := 0) fe_23_0 rfl ?_
  refine ay_t_stk (pc := 1) (S' := [.int 0, .ref 40]) fe_23_1 rfl ?_
  refine ay_t_put (pc := 2) fe_23_2 at_40 (by decide +kernel) rfl rfl ?_
  refine ay_t_stk (pc := 5) (S' := [.int 0]) fe_23_5 rfl ?_
  refine ay_t_loc (pc := 6) (L' := [some (.ref 40), some (.int 0), none]) fe_23_6 rfl ?_
  refine ay_t_stk (pc := 7) (S' := [.int 0]) fe_23_7 rfl ?_
  refine ay_t_loc (pc := 8) (L' := [some (.ref 40), some (.int 0), some (.int 0)]) fe_23_8 rfl ?_
  exact ay_t_less (ay_ls (ay_ls (ay_ls ay_l0))) (ev_23_9 _ _ _ _ _ _ h)
def fn_24_2 : Nat → Int32 → Int32 → am_DD → Option (Int32 × am_DD)
  | 0, _, _, _ => none
  | n + 1, x1, x2, D => (if x1 ≤ x2 then some (1, D) else (if ¬ (rw_at (D 44) 60 x2) = (rw_at (D 44) 60 x1) then fn_24_2 n x1 (x2 + 1) D else some (0, D)))
set_option maxHeartbeats 2000000 in
theorem ev_24_2 : ∀ (n : Nat) (x1 x2 : Int32) (D : am_DD) (y : Int32) (Z : am_DD), fn_24_2 n x1 x2 D = some (y, Z) → ay_to 24 2 [some (.ref 40), some (.int x1), some (.int x2)] [] D (.inl (some (.int y))) Z := by
  intro n
  induction n with
  | zero => intro x1 x2 D y Z h; cases h
  | succ n ih =>
    intro x1 x2 D y Z h
    rw [fn_24_2] at h
    refine ay_t_loc (pc := 2) fe_24_2 rfl ?_
    refine ay_t_loc (pc := 3) fe_24_3 rfl ?_
    by_cases hc1 : x1 ≤ x2
    · rw [if_pos hc1] at h
      refine ay_t_pos (pc := 4) hc1 fe_24_4 rfl ?_
      refine ay_t_stk (pc := 34) (S' := [.int 1]) fe_24_34 rfl ?_
      cases h
      exact ay_t_iret fe_24_35 rfl rfl
    · rw [if_neg hc1] at h
      refine ay_t_neg (pc := 4) hc1 fe_24_4 rfl ?_
      refine ay_t_loc (pc := 7) fe_24_7 rfl ?_
      refine ay_t_getR (pc := 8) (w := .ref 43) fe_24_8 at_40 (by decide +kernel) rfl ?_
      refine ay_t_loc (pc := 11) fe_24_11 rfl ?_
      refine ay_t_call (pc := 12) (w := some (.int (rw_at (D 44) 60 x2))) fe_24_12 (ay_args [.ref 43, .int x2] [] rfl rfl (Nat.le_of_ble_eq_true rfl) (Nat.le_of_ble_eq_true rfl)) (ay_rcvV at_43 rfl) (mt_at at_43 at_44 (by decide)) ?_
      refine ay_t_loc (pc := 15) fe_24_15 rfl ?_
      refine ay_t_getR (pc := 16) (w := .ref 43) fe_24_16 at_40 (by decide +kernel) rfl ?_
      refine ay_t_loc (pc := 19) fe_24_19 rfl ?_
      refine ay_t_call (pc := 20) (w := some (.int (rw_at (D 44) 60 x1))) fe_24_20 (ay_args [.ref 43, .int x1] [.int (rw_at (D 44) 60 x2)] rfl rfl (Nat.le_of_ble_eq_true rfl) (Nat.le_of_ble_eq_true rfl)) (ay_rcvV at_43 rfl) (mt_at at_43 at_44 (by decide)) ?_
      by_cases hc2 : ¬ (rw_at (D 44) 60 x2) = (rw_at (D 44) 60 x1)
      · rw [if_pos hc2] at h
        refine ay_t_pos (pc := 23) hc2 fe_24_23 rfl ?_
        refine ay_t_loc (pc := 28) (L' := [some (.ref 40), some (.int x1), some (.int (x2 + 1))]) fe_24_28 rfl ?_
        refine ay_t_br (pc := 31) (pc' := 2) fe_24_31 rfl ?_
        exact ay_t_less (ay_ls (ay_ls (ay_ls ay_l0))) (ih _ _ _ _ _ h)
      · rw [if_neg hc2] at h
        refine ay_t_neg (pc := 23) hc2 fe_24_23 rfl ?_
        refine ay_t_stk (pc := 26) (S' := [.int 0]) fe_24_26 rfl ?_
        cases h
        exact ay_t_iret fe_24_27 rfl rfl
def fn_24 (a1 : Int32) (D : am_DD) : Option (Int32 × am_DD) := fn_24_2 am_F a1 0 D
set_option maxHeartbeats 2000000 in
theorem ev_24 {a1 : Int32} {D : am_DD} {y : Int32} {Z : am_DD} (h : fn_24 a1 D = some (y, Z)) : ay_mo 24 [.ref 40, .int a1] D (.inl (some (.int y))) Z := by
  unfold fn_24 at h
  refine ay_m_of (L := [some (.ref 40), some (.int a1), none]) rfl ?_
  refine ay_t_stk (pc := 0) (S' := [.int 0]) fe_24_0 rfl ?_
  refine ay_t_loc (pc := 1) (L' := [some (.ref 40), some (.int a1), some (.int 0)]) fe_24_1 rfl ?_
  exact ay_t_less (ay_ls (ay_ls (ay_ls ay_l0))) (ev_24_2 _ _ _ _ _ _ h)
def fn_25_8 : Nat → Int32 → Int32 → am_DD → Option (Int32 × am_DD)
  | 0, _, _, _ => none
  | n + 1, x1, x2, D => (if (D 40 3) ≤ x2 then some (x1, D) else (match fn_24 x2 D with | none => none | some (y5, D6) => (if y5 = 0 then fn_25_8 n (x1 + 0) (x2 + 1) D6 else fn_25_8 n (x1 + 1) (x2 + 1) D6)))
set_option maxHeartbeats 2000000 in
theorem ev_25_8 : ∀ (n : Nat) (x1 x2 : Int32) (D : am_DD) (y : Int32) (Z : am_DD), fn_25_8 n x1 x2 D = some (y, Z) → ay_to 25 8 [some (.ref 40), some (.int x1), some (.int x2)] [] D (.inl (some (.int y))) Z := by
  intro n
  induction n with
  | zero => intro x1 x2 D y Z h; cases h
  | succ n ih =>
    intro x1 x2 D y Z h
    rw [fn_25_8] at h
    refine ay_t_loc (pc := 8) fe_25_8 rfl ?_
    refine ay_t_loc (pc := 9) fe_25_9 rfl ?_
    refine ay_t_getI (pc := 10) fe_25_10 at_40 (by decide +kernel) rfl ?_
    by_cases hc4 : (D 40 3) ≤ x2
    · rw [if_pos hc4] at h
      refine ay_t_pos (pc := 13) hc4 fe_25_13 rfl ?_
      refine ay_t_loc (pc := 38) fe_25_38 rfl ?_
      cases h
      exact ay_t_iret fe_25_39 rfl rfl
    · rw [if_neg hc4] at h
      refine ay_t_neg (pc := 13) hc4 fe_25_13 rfl ?_
      refine ay_t_loc (pc := 16) fe_25_16 rfl ?_
      refine ay_t_loc (pc := 17) fe_25_17 rfl ?_
      refine ay_t_loc (pc := 18) fe_25_18 rfl ?_
      cases hk7 : fn_24 x2 D with
      | none => rw [hk7] at h; cases h
      | some z =>
        obtain ⟨y5, D6⟩ := z
        rw [hk7] at h
        dsimp only at h
        refine ay_t_call (pc := 19) (w := some (.int y5)) fe_25_19 (ay_args [.ref 40, .int x2] [.int x1] rfl rfl (Nat.le_of_ble_eq_true rfl) (Nat.le_of_ble_eq_true rfl)) (ay_rcvV at_40 rfl) (ev_24 hk7) ?_
        by_cases hc8 : y5 = 0
        · rw [if_pos hc8] at h
          refine ay_t_pos (pc := 22) hc8 fe_25_22 rfl ?_
          refine ay_t_stk (pc := 29) (S' := [.int 0, .int x1]) fe_25_29 rfl ?_
          refine ay_t_stk (pc := 30) (S' := [.int (x1 + 0)]) fe_25_30 rfl ?_
          refine ay_t_loc (pc := 31) (L' := [some (.ref 40), some (.int (x1 + 0)), some (.int x2)]) fe_25_31 rfl ?_
          refine ay_t_loc (pc := 32) (L' := [some (.ref 40), some (.int (x1 + 0)), some (.int (x2 + 1))]) fe_25_32 rfl ?_
          refine ay_t_br (pc := 35) (pc' := 8) fe_25_35 rfl ?_
          exact ay_t_less (ay_ls (ay_ls (ay_ls ay_l0))) (ih _ _ _ _ _ h)
        · rw [if_neg hc8] at h
          refine ay_t_neg (pc := 22) hc8 fe_25_22 rfl ?_
          refine ay_t_stk (pc := 25) (S' := [.int 1, .int x1]) fe_25_25 rfl ?_
          refine ay_t_br (pc := 26) (pc' := 30) fe_25_26 rfl ?_
          refine ay_t_stk (pc := 30) (S' := [.int (x1 + 1)]) fe_25_30 rfl ?_
          refine ay_t_loc (pc := 31) (L' := [some (.ref 40), some (.int (x1 + 1)), some (.int x2)]) fe_25_31 rfl ?_
          refine ay_t_loc (pc := 32) (L' := [some (.ref 40), some (.int (x1 + 1)), some (.int (x2 + 1))]) fe_25_32 rfl ?_
          refine ay_t_br (pc := 35) (pc' := 8) fe_25_35 rfl ?_
          exact ay_t_less (ay_ls (ay_ls (ay_ls ay_l0))) (ih _ _ _ _ _ h)
def fn_25 (D : am_DD) : Option (Int32 × am_DD) := (match fn_23 D with | none => none | some (y1, D2) => fn_25_8 am_F 0 0 D2)
set_option maxHeartbeats 2000000 in
theorem ev_25 {D : am_DD} {y : Int32} {Z : am_DD} (h : fn_25  D = some (y, Z)) : ay_mo 25 [.ref 40] D (.inl (some (.int y))) Z := by
  unfold fn_25 at h
  refine ay_m_of (L := [some (.ref 40), none, none]) rfl ?_
  refine ay_t_loc (pc := 0) fe_25_0 rfl ?_
  cases hk3 : fn_23 D with
  | none => rw [hk3] at h; cases h
  | some z =>
    obtain ⟨y1, D2⟩ := z
    rw [hk3] at h
    dsimp only at h
    refine ay_t_call (pc := 1) (w := none) fe_25_1 (ay_args [.ref 40] [] rfl rfl (Nat.le_of_ble_eq_true rfl) (Nat.le_of_ble_eq_true rfl)) (ay_rcvV at_40 rfl) (ev_23 hk3) ?_
    refine ay_t_stk (pc := 4) (S' := [.int 0]) fe_25_4 rfl ?_
    refine ay_t_loc (pc := 5) (L' := [some (.ref 40), some (.int 0), none]) fe_25_5 rfl ?_
    refine ay_t_stk (pc := 6) (S' := [.int 0]) fe_25_6 rfl ?_
    refine ay_t_loc (pc := 7) (L' := [some (.ref 40), some (.int 0), some (.int 0)]) fe_25_7 rfl ?_
    exact ay_t_less (ay_ls (ay_ls (ay_ls ay_l0))) (ev_25_8 _ _ _ _ _ _ h)
def fn_26 (a1 : Int32) (D : am_DD) : Option (Int32 × am_DD) := some (((((((((a1 - ((a1.toUInt32 >>> (Int32.toUInt32 1 &&& Int32.toUInt32 31)).toInt32 &&& 1431655765)) &&& 858993459) + (((a1 - ((a1.toUInt32 >>> (Int32.toUInt32 1 &&& Int32.toUInt32 31)).toInt32 &&& 1431655765)).toUInt32 >>> (Int32.toUInt32 2 &&& Int32.toUInt32 31)).toInt32 &&& 858993459)) + ((((a1 - ((a1.toUInt32 >>> (Int32.toUInt32 1 &&& Int32.toUInt32 31)).toInt32 &&& 1431655765)) &&& 858993459) + (((a1 - ((a1.toUInt32 >>> (Int32.toUInt32 1 &&& Int32.toUInt32 31)).toInt32 &&& 1431655765)).toUInt32 >>> (Int32.toUInt32 2 &&& Int32.toUInt32 31)).toInt32 &&& 858993459)).toUInt32 >>> (Int32.toUInt32 4 &&& Int32.toUInt32 31)).toInt32) &&& 252645135) + ((((((a1 - ((a1.toUInt32 >>> (Int32.toUInt32 1 &&& Int32.toUInt32 31)).toInt32 &&& 1431655765)) &&& 858993459) + (((a1 - ((a1.toUInt32 >>> (Int32.toUInt32 1 &&& Int32.toUInt32 31)).toInt32 &&& 1431655765)).toUInt32 >>> (Int32.toUInt32 2 &&& Int32.toUInt32 31)).toInt32 &&& 858993459)) + ((((a1 - ((a1.toUInt32 >>> (Int32.toUInt32 1 &&& Int32.toUInt32 31)).toInt32 &&& 1431655765)) &&& 858993459) + (((a1 - ((a1.toUInt32 >>> (Int32.toUInt32 1 &&& Int32.toUInt32 31)).toInt32 &&& 1431655765)).toUInt32 >>> (Int32.toUInt32 2 &&& Int32.toUInt32 31)).toInt32 &&& 858993459)).toUInt32 >>> (Int32.toUInt32 4 &&& Int32.toUInt32 31)).toInt32) &&& 252645135).toUInt32 >>> (Int32.toUInt32 8 &&& Int32.toUInt32 31)).toInt32) + (((((((a1 - ((a1.toUInt32 >>> (Int32.toUInt32 1 &&& Int32.toUInt32 31)).toInt32 &&& 1431655765)) &&& 858993459) + (((a1 - ((a1.toUInt32 >>> (Int32.toUInt32 1 &&& Int32.toUInt32 31)).toInt32 &&& 1431655765)).toUInt32 >>> (Int32.toUInt32 2 &&& Int32.toUInt32 31)).toInt32 &&& 858993459)) + ((((a1 - ((a1.toUInt32 >>> (Int32.toUInt32 1 &&& Int32.toUInt32 31)).toInt32 &&& 1431655765)) &&& 858993459) + (((a1 - ((a1.toUInt32 >>> (Int32.toUInt32 1 &&& Int32.toUInt32 31)).toInt32 &&& 1431655765)).toUInt32 >>> (Int32.toUInt32 2 &&& Int32.toUInt32 31)).toInt32 &&& 858993459)).toUInt32 >>> (Int32.toUInt32 4 &&& Int32.toUInt32 31)).toInt32) &&& 252645135) + ((((((a1 - ((a1.toUInt32 >>> (Int32.toUInt32 1 &&& Int32.toUInt32 31)).toInt32 &&& 1431655765)) &&& 858993459) + (((a1 - ((a1.toUInt32 >>> (Int32.toUInt32 1 &&& Int32.toUInt32 31)).toInt32 &&& 1431655765)).toUInt32 >>> (Int32.toUInt32 2 &&& Int32.toUInt32 31)).toInt32 &&& 858993459)) + ((((a1 - ((a1.toUInt32 >>> (Int32.toUInt32 1 &&& Int32.toUInt32 31)).toInt32 &&& 1431655765)) &&& 858993459) + (((a1 - ((a1.toUInt32 >>> (Int32.toUInt32 1 &&& Int32.toUInt32 31)).toInt32 &&& 1431655765)).toUInt32 >>> (Int32.toUInt32 2 &&& Int32.toUInt32 31)).toInt32 &&& 858993459)).toUInt32 >>> (Int32.toUInt32 4 &&& Int32.toUInt32 31)).toInt32) &&& 252645135).toUInt32 >>> (Int32.toUInt32 8 &&& Int32.toUInt32 31)).toInt32).toUInt32 >>> (Int32.toUInt32 16 &&& Int32.toUInt32 31)).toInt32) &&& 63), D)
set_option maxHeartbeats 2000000 in
theorem ev_26 {a1 : Int32} {D : am_DD} {y : Int32} {Z : am_DD} (h : fn_26 a1 D = some (y, Z)) : ay_mo 26 [.int a1] D (.inl (some (.int y))) Z := by
  unfold fn_26 at h
  refine ay_m_of (L := [some (.int a1)]) rfl ?_
  refine ay_t_loc (pc := 0) fe_26_0 rfl ?_
  refine ay_t_loc (pc := 1) fe_26_1 rfl ?_
  refine ay_t_stk (pc := 2) (S' := [.int 1, .int a1, .int a1]) fe_26_2 rfl ?_
  refine ay_t_stk (pc := 3) (S' := [.int ((a1.toUInt32 >>> (Int32.toUInt32 1 &&& Int32.toUInt32 31)).toInt32), .int a1]) fe_26_3 rfl ?_
  refine ay_t_lib (pc := 4) (S' := [.int 1431655765, .int ((a1.toUInt32 >>> (Int32.toUInt32 1 &&& Int32.toUInt32 31)).toInt32), .int a1]) fe_26_4 rfl ?_
  refine ay_t_stk (pc := 7) (S' := [.int ((a1.toUInt32 >>> (Int32.toUInt32 1 &&& Int32.toUInt32 31)).toInt32 &&& 1431655765), .int a1]) fe_26_7 rfl ?_
  refine ay_t_stk (pc := 8) (S' := [.int (a1 - ((a1.toUInt32 >>> (Int32.toUInt32 1 &&& Int32.toUInt32 31)).toInt32 &&& 1431655765))]) fe_26_8 rfl ?_
  refine ay_t_loc (pc := 9) (L' := [some (.int (a1 - ((a1.toUInt32 >>> (Int32.toUInt32 1 &&& Int32.toUInt32 31)).toInt32 &&& 1431655765)))]) fe_26_9 rfl ?_
  refine ay_t_loc (pc := 10) fe_26_10 rfl ?_
  refine ay_t_lib (pc := 11) (S' := [.int 858993459, .int (a1 - ((a1.toUInt32 >>> (Int32.toUInt32 1 &&& Int32.toUInt32 31)).toInt32 &&& 1431655765))]) fe_26_11 rfl ?_
  refine ay_t_stk (pc := 14) (S' := [.int ((a1 - ((a1.toUInt32 >>> (Int32.toUInt32 1 &&& Int32.toUInt32 31)).toInt32 &&& 1431655765)) &&& 858993459)]) fe_26_14 rfl ?_
  refine ay_t_loc (pc := 15) fe_26_15 rfl ?_
  refine ay_t_stk (pc := 16) (S' := [.int 2, .int (a1 - ((a1.toUInt32 >>> (Int32.toUInt32 1 &&& Int32.toUInt32 31)).toInt32 &&& 1431655765)), .int ((a1 - ((a1.toUInt32 >>> (Int32.toUInt32 1 &&& Int32.toUInt32 31)).toInt32 &&& 1431655765)) &&& 858993459)]) fe_26_16 rfl ?_
  refine ay_t_stk (pc := 17) (S' := [.int (((a1 - ((a1.toUInt32 >>> (Int32.toUInt32 1 &&& Int32.toUInt32 31)).toInt32 &&& 1431655765)).toUInt32 >>> (Int32.toUInt32 2 &&& Int32.toUInt32 31)).toInt32), .int ((a1 - ((a1.toUInt32 >>> (Int32.toUInt32 1 &&& Int32.toUInt32 31)).toInt32 &&& 1431655765)) &&& 858993459)]) fe_26_17 rfl ?_
  refine ay_t_lib (pc := 18) (S' := [.int 858993459, .int (((a1 - ((a1.toUInt32 >>> (Int32.toUInt32 1 &&& Int32.toUInt32 31)).toInt32 &&& 1431655765)).toUInt32 >>> (Int32.toUInt32 2 &&& Int32.toUInt32 31)).toInt32), .int ((a1 - ((a1.toUInt32 >>> (Int32.toUInt32 1 &&& Int32.toUInt32 31)).toInt32 &&& 1431655765)) &&& 858993459)]) fe_26_18 rfl ?_
  refine ay_t_stk (pc := 21) (S' := [.int (((a1 - ((a1.toUInt32 >>> (Int32.toUInt32 1 &&& Int32.toUInt32 31)).toInt32 &&& 1431655765)).toUInt32 >>> (Int32.toUInt32 2 &&& Int32.toUInt32 31)).toInt32 &&& 858993459), .int ((a1 - ((a1.toUInt32 >>> (Int32.toUInt32 1 &&& Int32.toUInt32 31)).toInt32 &&& 1431655765)) &&& 858993459)]) fe_26_21 rfl ?_
  refine ay_t_stk (pc := 22) (S' := [.int (((a1 - ((a1.toUInt32 >>> (Int32.toUInt32 1 &&& Int32.toUInt32 31)).toInt32 &&& 1431655765)) &&& 858993459) + (((a1 - ((a1.toUInt32 >>> (Int32.toUInt32 1 &&& Int32.toUInt32 31)).toInt32 &&& 1431655765)).toUInt32 >>> (Int32.toUInt32 2 &&& Int32.toUInt32 31)).toInt32 &&& 858993459))]) fe_26_22 rfl ?_
  refine ay_t_loc (pc := 23) (L' := [some (.int (((a1 - ((a1.toUInt32 >>> (Int32.toUInt32 1 &&& Int32.toUInt32 31)).toInt32 &&& 1431655765)) &&& 858993459) + (((a1 - ((a1.toUInt32 >>> (Int32.toUInt32 1 &&& Int32.toUInt32 31)).toInt32 &&& 1431655765)).toUInt32 >>> (Int32.toUInt32 2 &&& Int32.toUInt32 31)).toInt32 &&& 858993459)))]) fe_26_23 rfl ?_
  refine ay_t_loc (pc := 24) fe_26_24 rfl ?_
  refine ay_t_loc (pc := 25) fe_26_25 rfl ?_
  refine ay_t_stk (pc := 26) (S' := [.int 4, .int (((a1 - ((a1.toUInt32 >>> (Int32.toUInt32 1 &&& Int32.toUInt32 31)).toInt32 &&& 1431655765)) &&& 858993459) + (((a1 - ((a1.toUInt32 >>> (Int32.toUInt32 1 &&& Int32.toUInt32 31)).toInt32 &&& 1431655765)).toUInt32 >>> (Int32.toUInt32 2 &&& Int32.toUInt32 31)).toInt32 &&& 858993459)), .int (((a1 - ((a1.toUInt32 >>> (Int32.toUInt32 1 &&& Int32.toUInt32 31)).toInt32 &&& 1431655765)) &&& 858993459) + (((a1 - ((a1.toUInt32 >>> (Int32.toUInt32 1 &&& Int32.toUInt32 31)).toInt32 &&& 1431655765)).toUInt32 >>> (Int32.toUInt32 2 &&& Int32.toUInt32 31)).toInt32 &&& 858993459))]) fe_26_26 rfl ?_
  refine ay_t_stk (pc := 27) (S' := [.int (((((a1 - ((a1.toUInt32 >>> (Int32.toUInt32 1 &&& Int32.toUInt32 31)).toInt32 &&& 1431655765)) &&& 858993459) + (((a1 - ((a1.toUInt32 >>> (Int32.toUInt32 1 &&& Int32.toUInt32 31)).toInt32 &&& 1431655765)).toUInt32 >>> (Int32.toUInt32 2 &&& Int32.toUInt32 31)).toInt32 &&& 858993459)).toUInt32 >>> (Int32.toUInt32 4 &&& Int32.toUInt32 31)).toInt32), .int (((a1 - ((a1.toUInt32 >>> (Int32.toUInt32 1 &&& Int32.toUInt32 31)).toInt32 &&& 1431655765)) &&& 858993459) + (((a1 - ((a1.toUInt32 >>> (Int32.toUInt32 1 &&& Int32.toUInt32 31)).toInt32 &&& 1431655765)).toUInt32 >>> (Int32.toUInt32 2 &&& Int32.toUInt32 31)).toInt32 &&& 858993459))]) fe_26_27 rfl ?_
  refine ay_t_stk (pc := 28) (S' := [.int ((((a1 - ((a1.toUInt32 >>> (Int32.toUInt32 1 &&& Int32.toUInt32 31)).toInt32 &&& 1431655765)) &&& 858993459) + (((a1 - ((a1.toUInt32 >>> (Int32.toUInt32 1 &&& Int32.toUInt32 31)).toInt32 &&& 1431655765)).toUInt32 >>> (Int32.toUInt32 2 &&& Int32.toUInt32 31)).toInt32 &&& 858993459)) + ((((a1 - ((a1.toUInt32 >>> (Int32.toUInt32 1 &&& Int32.toUInt32 31)).toInt32 &&& 1431655765)) &&& 858993459) + (((a1 - ((a1.toUInt32 >>> (Int32.toUInt32 1 &&& Int32.toUInt32 31)).toInt32 &&& 1431655765)).toUInt32 >>> (Int32.toUInt32 2 &&& Int32.toUInt32 31)).toInt32 &&& 858993459)).toUInt32 >>> (Int32.toUInt32 4 &&& Int32.toUInt32 31)).toInt32)]) fe_26_28 rfl ?_
  refine ay_t_lib (pc := 29) (S' := [.int 252645135, .int ((((a1 - ((a1.toUInt32 >>> (Int32.toUInt32 1 &&& Int32.toUInt32 31)).toInt32 &&& 1431655765)) &&& 858993459) + (((a1 - ((a1.toUInt32 >>> (Int32.toUInt32 1 &&& Int32.toUInt32 31)).toInt32 &&& 1431655765)).toUInt32 >>> (Int32.toUInt32 2 &&& Int32.toUInt32 31)).toInt32 &&& 858993459)) + ((((a1 - ((a1.toUInt32 >>> (Int32.toUInt32 1 &&& Int32.toUInt32 31)).toInt32 &&& 1431655765)) &&& 858993459) + (((a1 - ((a1.toUInt32 >>> (Int32.toUInt32 1 &&& Int32.toUInt32 31)).toInt32 &&& 1431655765)).toUInt32 >>> (Int32.toUInt32 2 &&& Int32.toUInt32 31)).toInt32 &&& 858993459)).toUInt32 >>> (Int32.toUInt32 4 &&& Int32.toUInt32 31)).toInt32)]) fe_26_29 rfl ?_
  refine ay_t_stk (pc := 32) (S' := [.int (((((a1 - ((a1.toUInt32 >>> (Int32.toUInt32 1 &&& Int32.toUInt32 31)).toInt32 &&& 1431655765)) &&& 858993459) + (((a1 - ((a1.toUInt32 >>> (Int32.toUInt32 1 &&& Int32.toUInt32 31)).toInt32 &&& 1431655765)).toUInt32 >>> (Int32.toUInt32 2 &&& Int32.toUInt32 31)).toInt32 &&& 858993459)) + ((((a1 - ((a1.toUInt32 >>> (Int32.toUInt32 1 &&& Int32.toUInt32 31)).toInt32 &&& 1431655765)) &&& 858993459) + (((a1 - ((a1.toUInt32 >>> (Int32.toUInt32 1 &&& Int32.toUInt32 31)).toInt32 &&& 1431655765)).toUInt32 >>> (Int32.toUInt32 2 &&& Int32.toUInt32 31)).toInt32 &&& 858993459)).toUInt32 >>> (Int32.toUInt32 4 &&& Int32.toUInt32 31)).toInt32) &&& 252645135)]) fe_26_32 rfl ?_
  refine ay_t_loc (pc := 33) (L' := [some (.int (((((a1 - ((a1.toUInt32 >>> (Int32.toUInt32 1 &&& Int32.toUInt32 31)).toInt32 &&& 1431655765)) &&& 858993459) + (((a1 - ((a1.toUInt32 >>> (Int32.toUInt32 1 &&& Int32.toUInt32 31)).toInt32 &&& 1431655765)).toUInt32 >>> (Int32.toUInt32 2 &&& Int32.toUInt32 31)).toInt32 &&& 858993459)) + ((((a1 - ((a1.toUInt32 >>> (Int32.toUInt32 1 &&& Int32.toUInt32 31)).toInt32 &&& 1431655765)) &&& 858993459) + (((a1 - ((a1.toUInt32 >>> (Int32.toUInt32 1 &&& Int32.toUInt32 31)).toInt32 &&& 1431655765)).toUInt32 >>> (Int32.toUInt32 2 &&& Int32.toUInt32 31)).toInt32 &&& 858993459)).toUInt32 >>> (Int32.toUInt32 4 &&& Int32.toUInt32 31)).toInt32) &&& 252645135))]) fe_26_33 rfl ?_
  refine ay_t_loc (pc := 34) fe_26_34 rfl ?_
  refine ay_t_loc (pc := 35) fe_26_35 rfl ?_
  refine ay_t_stk (pc := 36) (S' := [.int 8, .int (((((a1 - ((a1.toUInt32 >>> (Int32.toUInt32 1 &&& Int32.toUInt32 31)).toInt32 &&& 1431655765)) &&& 858993459) + (((a1 - ((a1.toUInt32 >>> (Int32.toUInt32 1 &&& Int32.toUInt32 31)).toInt32 &&& 1431655765)).toUInt32 >>> (Int32.toUInt32 2 &&& Int32.toUInt32 31)).toInt32 &&& 858993459)) + ((((a1 - ((a1.toUInt32 >>> (Int32.toUInt32 1 &&& Int32.toUInt32 31)).toInt32 &&& 1431655765)) &&& 858993459) + (((a1 - ((a1.toUInt32 >>> (Int32.toUInt32 1 &&& Int32.toUInt32 31)).toInt32 &&& 1431655765)).toUInt32 >>> (Int32.toUInt32 2 &&& Int32.toUInt32 31)).toInt32 &&& 858993459)).toUInt32 >>> (Int32.toUInt32 4 &&& Int32.toUInt32 31)).toInt32) &&& 252645135), .int (((((a1 - ((a1.toUInt32 >>> (Int32.toUInt32 1 &&& Int32.toUInt32 31)).toInt32 &&& 1431655765)) &&& 858993459) + (((a1 - ((a1.toUInt32 >>> (Int32.toUInt32 1 &&& Int32.toUInt32 31)).toInt32 &&& 1431655765)).toUInt32 >>> (Int32.toUInt32 2 &&& Int32.toUInt32 31)).toInt32 &&& 858993459)) + ((((a1 - ((a1.toUInt32 >>> (Int32.toUInt32 1 &&& Int32.toUInt32 31)).toInt32 &&& 1431655765)) &&& 858993459) + (((a1 - ((a1.toUInt32 >>> (Int32.toUInt32 1 &&& Int32.toUInt32 31)).toInt32 &&& 1431655765)).toUInt32 >>> (Int32.toUInt32 2 &&& Int32.toUInt32 31)).toInt32 &&& 858993459)).toUInt32 >>> (Int32.toUInt32 4 &&& Int32.toUInt32 31)).toInt32) &&& 252645135)]) fe_26_36 rfl ?_
  refine ay_t_stk (pc := 38) (S' := [.int (((((((a1 - ((a1.toUInt32 >>> (Int32.toUInt32 1 &&& Int32.toUInt32 31)).toInt32 &&& 1431655765)) &&& 858993459) + (((a1 - ((a1.toUInt32 >>> (Int32.toUInt32 1 &&& Int32.toUInt32 31)).toInt32 &&& 1431655765)).toUInt32 >>> (Int32.toUInt32 2 &&& Int32.toUInt32 31)).toInt32 &&& 858993459)) + ((((a1 - ((a1.toUInt32 >>> (Int32.toUInt32 1 &&& Int32.toUInt32 31)).toInt32 &&& 1431655765)) &&& 858993459) + (((a1 - ((a1.toUInt32 >>> (Int32.toUInt32 1 &&& Int32.toUInt32 31)).toInt32 &&& 1431655765)).toUInt32 >>> (Int32.toUInt32 2 &&& Int32.toUInt32 31)).toInt32 &&& 858993459)).toUInt32 >>> (Int32.toUInt32 4 &&& Int32.toUInt32 31)).toInt32) &&& 252645135).toUInt32 >>> (Int32.toUInt32 8 &&& Int32.toUInt32 31)).toInt32), .int (((((a1 - ((a1.toUInt32 >>> (Int32.toUInt32 1 &&& Int32.toUInt32 31)).toInt32 &&& 1431655765)) &&& 858993459) + (((a1 - ((a1.toUInt32 >>> (Int32.toUInt32 1 &&& Int32.toUInt32 31)).toInt32 &&& 1431655765)).toUInt32 >>> (Int32.toUInt32 2 &&& Int32.toUInt32 31)).toInt32 &&& 858993459)) + ((((a1 - ((a1.toUInt32 >>> (Int32.toUInt32 1 &&& Int32.toUInt32 31)).toInt32 &&& 1431655765)) &&& 858993459) + (((a1 - ((a1.toUInt32 >>> (Int32.toUInt32 1 &&& Int32.toUInt32 31)).toInt32 &&& 1431655765)).toUInt32 >>> (Int32.toUInt32 2 &&& Int32.toUInt32 31)).toInt32 &&& 858993459)).toUInt32 >>> (Int32.toUInt32 4 &&& Int32.toUInt32 31)).toInt32) &&& 252645135)]) fe_26_38 rfl ?_
  refine ay_t_stk (pc := 39) (S' := [.int ((((((a1 - ((a1.toUInt32 >>> (Int32.toUInt32 1 &&& Int32.toUInt32 31)).toInt32 &&& 1431655765)) &&& 858993459) + (((a1 - ((a1.toUInt32 >>> (Int32.toUInt32 1 &&& Int32.toUInt32 31)).toInt32 &&& 1431655765)).toUInt32 >>> (Int32.toUInt32 2 &&& Int32.toUInt32 31)).toInt32 &&& 858993459)) + ((((a1 - ((a1.toUInt32 >>> (Int32.toUInt32 1 &&& Int32.toUInt32 31)).toInt32 &&& 1431655765)) &&& 858993459) + (((a1 - ((a1.toUInt32 >>> (Int32.toUInt32 1 &&& Int32.toUInt32 31)).toInt32 &&& 1431655765)).toUInt32 >>> (Int32.toUInt32 2 &&& Int32.toUInt32 31)).toInt32 &&& 858993459)).toUInt32 >>> (Int32.toUInt32 4 &&& Int32.toUInt32 31)).toInt32) &&& 252645135) + ((((((a1 - ((a1.toUInt32 >>> (Int32.toUInt32 1 &&& Int32.toUInt32 31)).toInt32 &&& 1431655765)) &&& 858993459) + (((a1 - ((a1.toUInt32 >>> (Int32.toUInt32 1 &&& Int32.toUInt32 31)).toInt32 &&& 1431655765)).toUInt32 >>> (Int32.toUInt32 2 &&& Int32.toUInt32 31)).toInt32 &&& 858993459)) + ((((a1 - ((a1.toUInt32 >>> (Int32.toUInt32 1 &&& Int32.toUInt32 31)).toInt32 &&& 1431655765)) &&& 858993459) + (((a1 - ((a1.toUInt32 >>> (Int32.toUInt32 1 &&& Int32.toUInt32 31)).toInt32 &&& 1431655765)).toUInt32 >>> (Int32.toUInt32 2 &&& Int32.toUInt32 31)).toInt32 &&& 858993459)).toUInt32 >>> (Int32.toUInt32 4 &&& Int32.toUInt32 31)).toInt32) &&& 252645135).toUInt32 >>> (Int32.toUInt32 8 &&& Int32.toUInt32 31)).toInt32)]) fe_26_39 rfl ?_
  refine ay_t_loc (pc := 40) (L' := [some (.int ((((((a1 - ((a1.toUInt32 >>> (Int32.toUInt32 1 &&& Int32.toUInt32 31)).toInt32 &&& 1431655765)) &&& 858993459) + (((a1 - ((a1.toUInt32 >>> (Int32.toUInt32 1 &&& Int32.toUInt32 31)).toInt32 &&& 1431655765)).toUInt32 >>> (Int32.toUInt32 2 &&& Int32.toUInt32 31)).toInt32 &&& 858993459)) + ((((a1 - ((a1.toUInt32 >>> (Int32.toUInt32 1 &&& Int32.toUInt32 31)).toInt32 &&& 1431655765)) &&& 858993459) + (((a1 - ((a1.toUInt32 >>> (Int32.toUInt32 1 &&& Int32.toUInt32 31)).toInt32 &&& 1431655765)).toUInt32 >>> (Int32.toUInt32 2 &&& Int32.toUInt32 31)).toInt32 &&& 858993459)).toUInt32 >>> (Int32.toUInt32 4 &&& Int32.toUInt32 31)).toInt32) &&& 252645135) + ((((((a1 - ((a1.toUInt32 >>> (Int32.toUInt32 1 &&& Int32.toUInt32 31)).toInt32 &&& 1431655765)) &&& 858993459) + (((a1 - ((a1.toUInt32 >>> (Int32.toUInt32 1 &&& Int32.toUInt32 31)).toInt32 &&& 1431655765)).toUInt32 >>> (Int32.toUInt32 2 &&& Int32.toUInt32 31)).toInt32 &&& 858993459)) + ((((a1 - ((a1.toUInt32 >>> (Int32.toUInt32 1 &&& Int32.toUInt32 31)).toInt32 &&& 1431655765)) &&& 858993459) + (((a1 - ((a1.toUInt32 >>> (Int32.toUInt32 1 &&& Int32.toUInt32 31)).toInt32 &&& 1431655765)).toUInt32 >>> (Int32.toUInt32 2 &&& Int32.toUInt32 31)).toInt32 &&& 858993459)).toUInt32 >>> (Int32.toUInt32 4 &&& Int32.toUInt32 31)).toInt32) &&& 252645135).toUInt32 >>> (Int32.toUInt32 8 &&& Int32.toUInt32 31)).toInt32))]) fe_26_40 rfl ?_
  refine ay_t_loc (pc := 41) fe_26_41 rfl ?_
  refine ay_t_loc (pc := 42) fe_26_42 rfl ?_
  refine ay_t_stk (pc := 43) (S' := [.int 16, .int ((((((a1 - ((a1.toUInt32 >>> (Int32.toUInt32 1 &&& Int32.toUInt32 31)).toInt32 &&& 1431655765)) &&& 858993459) + (((a1 - ((a1.toUInt32 >>> (Int32.toUInt32 1 &&& Int32.toUInt32 31)).toInt32 &&& 1431655765)).toUInt32 >>> (Int32.toUInt32 2 &&& Int32.toUInt32 31)).toInt32 &&& 858993459)) + ((((a1 - ((a1.toUInt32 >>> (Int32.toUInt32 1 &&& Int32.toUInt32 31)).toInt32 &&& 1431655765)) &&& 858993459) + (((a1 - ((a1.toUInt32 >>> (Int32.toUInt32 1 &&& Int32.toUInt32 31)).toInt32 &&& 1431655765)).toUInt32 >>> (Int32.toUInt32 2 &&& Int32.toUInt32 31)).toInt32 &&& 858993459)).toUInt32 >>> (Int32.toUInt32 4 &&& Int32.toUInt32 31)).toInt32) &&& 252645135) + ((((((a1 - ((a1.toUInt32 >>> (Int32.toUInt32 1 &&& Int32.toUInt32 31)).toInt32 &&& 1431655765)) &&& 858993459) + (((a1 - ((a1.toUInt32 >>> (Int32.toUInt32 1 &&& Int32.toUInt32 31)).toInt32 &&& 1431655765)).toUInt32 >>> (Int32.toUInt32 2 &&& Int32.toUInt32 31)).toInt32 &&& 858993459)) + ((((a1 - ((a1.toUInt32 >>> (Int32.toUInt32 1 &&& Int32.toUInt32 31)).toInt32 &&& 1431655765)) &&& 858993459) + (((a1 - ((a1.toUInt32 >>> (Int32.toUInt32 1 &&& Int32.toUInt32 31)).toInt32 &&& 1431655765)).toUInt32 >>> (Int32.toUInt32 2 &&& Int32.toUInt32 31)).toInt32 &&& 858993459)).toUInt32 >>> (Int32.toUInt32 4 &&& Int32.toUInt32 31)).toInt32) &&& 252645135).toUInt32 >>> (Int32.toUInt32 8 &&& Int32.toUInt32 31)).toInt32), .int ((((((a1 - ((a1.toUInt32 >>> (Int32.toUInt32 1 &&& Int32.toUInt32 31)).toInt32 &&& 1431655765)) &&& 858993459) + (((a1 - ((a1.toUInt32 >>> (Int32.toUInt32 1 &&& Int32.toUInt32 31)).toInt32 &&& 1431655765)).toUInt32 >>> (Int32.toUInt32 2 &&& Int32.toUInt32 31)).toInt32 &&& 858993459)) + ((((a1 - ((a1.toUInt32 >>> (Int32.toUInt32 1 &&& Int32.toUInt32 31)).toInt32 &&& 1431655765)) &&& 858993459) + (((a1 - ((a1.toUInt32 >>> (Int32.toUInt32 1 &&& Int32.toUInt32 31)).toInt32 &&& 1431655765)).toUInt32 >>> (Int32.toUInt32 2 &&& Int32.toUInt32 31)).toInt32 &&& 858993459)).toUInt32 >>> (Int32.toUInt32 4 &&& Int32.toUInt32 31)).toInt32) &&& 252645135) + ((((((a1 - ((a1.toUInt32 >>> (Int32.toUInt32 1 &&& Int32.toUInt32 31)).toInt32 &&& 1431655765)) &&& 858993459) + (((a1 - ((a1.toUInt32 >>> (Int32.toUInt32 1 &&& Int32.toUInt32 31)).toInt32 &&& 1431655765)).toUInt32 >>> (Int32.toUInt32 2 &&& Int32.toUInt32 31)).toInt32 &&& 858993459)) + ((((a1 - ((a1.toUInt32 >>> (Int32.toUInt32 1 &&& Int32.toUInt32 31)).toInt32 &&& 1431655765)) &&& 858993459) + (((a1 - ((a1.toUInt32 >>> (Int32.toUInt32 1 &&& Int32.toUInt32 31)).toInt32 &&& 1431655765)).toUInt32 >>> (Int32.toUInt32 2 &&& Int32.toUInt32 31)).toInt32 &&& 858993459)).toUInt32 >>> (Int32.toUInt32 4 &&& Int32.toUInt32 31)).toInt32) &&& 252645135).toUInt32 >>> (Int32.toUInt32 8 &&& Int32.toUInt32 31)).toInt32)]) fe_26_43 rfl ?_
  refine ay_t_stk (pc := 45) (S' := [.int ((((((((a1 - ((a1.toUInt32 >>> (Int32.toUInt32 1 &&& Int32.toUInt32 31)).toInt32 &&& 1431655765)) &&& 858993459) + (((a1 - ((a1.toUInt32 >>> (Int32.toUInt32 1 &&& Int32.toUInt32 31)).toInt32 &&& 1431655765)).toUInt32 >>> (Int32.toUInt32 2 &&& Int32.toUInt32 31)).toInt32 &&& 858993459)) + ((((a1 - ((a1.toUInt32 >>> (Int32.toUInt32 1 &&& Int32.toUInt32 31)).toInt32 &&& 1431655765)) &&& 858993459) + (((a1 - ((a1.toUInt32 >>> (Int32.toUInt32 1 &&& Int32.toUInt32 31)).toInt32 &&& 1431655765)).toUInt32 >>> (Int32.toUInt32 2 &&& Int32.toUInt32 31)).toInt32 &&& 858993459)).toUInt32 >>> (Int32.toUInt32 4 &&& Int32.toUInt32 31)).toInt32) &&& 252645135) + ((((((a1 - ((a1.toUInt32 >>> (Int32.toUInt32 1 &&& Int32.toUInt32 31)).toInt32 &&& 1431655765)) &&& 858993459) + (((a1 - ((a1.toUInt32 >>> (Int32.toUInt32 1 &&& Int32.toUInt32 31)).toInt32 &&& 1431655765)).toUInt32 >>> (Int32.toUInt32 2 &&& Int32.toUInt32 31)).toInt32 &&& 858993459)) + ((((a1 - ((a1.toUInt32 >>> (Int32.toUInt32 1 &&& Int32.toUInt32 31)).toInt32 &&& 1431655765)) &&& 858993459) + (((a1 - ((a1.toUInt32 >>> (Int32.toUInt32 1 &&& Int32.toUInt32 31)).toInt32 &&& 1431655765)).toUInt32 >>> (Int32.toUInt32 2 &&& Int32.toUInt32 31)).toInt32 &&& 858993459)).toUInt32 >>> (Int32.toUInt32 4 &&& Int32.toUInt32 31)).toInt32) &&& 252645135).toUInt32 >>> (Int32.toUInt32 8 &&& Int32.toUInt32 31)).toInt32).toUInt32 >>> (Int32.toUInt32 16 &&& Int32.toUInt32 31)).toInt32), .int ((((((a1 - ((a1.toUInt32 >>> (Int32.toUInt32 1 &&& Int32.toUInt32 31)).toInt32 &&& 1431655765)) &&& 858993459) + (((a1 - ((a1.toUInt32 >>> (Int32.toUInt32 1 &&& Int32.toUInt32 31)).toInt32 &&& 1431655765)).toUInt32 >>> (Int32.toUInt32 2 &&& Int32.toUInt32 31)).toInt32 &&& 858993459)) + ((((a1 - ((a1.toUInt32 >>> (Int32.toUInt32 1 &&& Int32.toUInt32 31)).toInt32 &&& 1431655765)) &&& 858993459) + (((a1 - ((a1.toUInt32 >>> (Int32.toUInt32 1 &&& Int32.toUInt32 31)).toInt32 &&& 1431655765)).toUInt32 >>> (Int32.toUInt32 2 &&& Int32.toUInt32 31)).toInt32 &&& 858993459)).toUInt32 >>> (Int32.toUInt32 4 &&& Int32.toUInt32 31)).toInt32) &&& 252645135) + ((((((a1 - ((a1.toUInt32 >>> (Int32.toUInt32 1 &&& Int32.toUInt32 31)).toInt32 &&& 1431655765)) &&& 858993459) + (((a1 - ((a1.toUInt32 >>> (Int32.toUInt32 1 &&& Int32.toUInt32 31)).toInt32 &&& 1431655765)).toUInt32 >>> (Int32.toUInt32 2 &&& Int32.toUInt32 31)).toInt32 &&& 858993459)) + ((((a1 - ((a1.toUInt32 >>> (Int32.toUInt32 1 &&& Int32.toUInt32 31)).toInt32 &&& 1431655765)) &&& 858993459) + (((a1 - ((a1.toUInt32 >>> (Int32.toUInt32 1 &&& Int32.toUInt32 31)).toInt32 &&& 1431655765)).toUInt32 >>> (Int32.toUInt32 2 &&& Int32.toUInt32 31)).toInt32 &&& 858993459)).toUInt32 >>> (Int32.toUInt32 4 &&& Int32.toUInt32 31)).toInt32) &&& 252645135).toUInt32 >>> (Int32.toUInt32 8 &&& Int32.toUInt32 31)).toInt32)]) fe_26_45 rfl ?_
  refine ay_t_stk (pc := 46) (S' := [.int (((((((a1 - ((a1.toUInt32 >>> (Int32.toUInt32 1 &&& Int32.toUInt32 31)).toInt32 &&& 1431655765)) &&& 858993459) + (((a1 - ((a1.toUInt32 >>> (Int32.toUInt32 1 &&& Int32.toUInt32 31)).toInt32 &&& 1431655765)).toUInt32 >>> (Int32.toUInt32 2 &&& Int32.toUInt32 31)).toInt32 &&& 858993459)) + ((((a1 - ((a1.toUInt32 >>> (Int32.toUInt32 1 &&& Int32.toUInt32 31)).toInt32 &&& 1431655765)) &&& 858993459) + (((a1 - ((a1.toUInt32 >>> (Int32.toUInt32 1 &&& Int32.toUInt32 31)).toInt32 &&& 1431655765)).toUInt32 >>> (Int32.toUInt32 2 &&& Int32.toUInt32 31)).toInt32 &&& 858993459)).toUInt32 >>> (Int32.toUInt32 4 &&& Int32.toUInt32 31)).toInt32) &&& 252645135) + ((((((a1 - ((a1.toUInt32 >>> (Int32.toUInt32 1 &&& Int32.toUInt32 31)).toInt32 &&& 1431655765)) &&& 858993459) + (((a1 - ((a1.toUInt32 >>> (Int32.toUInt32 1 &&& Int32.toUInt32 31)).toInt32 &&& 1431655765)).toUInt32 >>> (Int32.toUInt32 2 &&& Int32.toUInt32 31)).toInt32 &&& 858993459)) + ((((a1 - ((a1.toUInt32 >>> (Int32.toUInt32 1 &&& Int32.toUInt32 31)).toInt32 &&& 1431655765)) &&& 858993459) + (((a1 - ((a1.toUInt32 >>> (Int32.toUInt32 1 &&& Int32.toUInt32 31)).toInt32 &&& 1431655765)).toUInt32 >>> (Int32.toUInt32 2 &&& Int32.toUInt32 31)).toInt32 &&& 858993459)).toUInt32 >>> (Int32.toUInt32 4 &&& Int32.toUInt32 31)).toInt32) &&& 252645135).toUInt32 >>> (Int32.toUInt32 8 &&& Int32.toUInt32 31)).toInt32) + (((((((a1 - ((a1.toUInt32 >>> (Int32.toUInt32 1 &&& Int32.toUInt32 31)).toInt32 &&& 1431655765)) &&& 858993459) + (((a1 - ((a1.toUInt32 >>> (Int32.toUInt32 1 &&& Int32.toUInt32 31)).toInt32 &&& 1431655765)).toUInt32 >>> (Int32.toUInt32 2 &&& Int32.toUInt32 31)).toInt32 &&& 858993459)) + ((((a1 - ((a1.toUInt32 >>> (Int32.toUInt32 1 &&& Int32.toUInt32 31)).toInt32 &&& 1431655765)) &&& 858993459) + (((a1 - ((a1.toUInt32 >>> (Int32.toUInt32 1 &&& Int32.toUInt32 31)).toInt32 &&& 1431655765)).toUInt32 >>> (Int32.toUInt32 2 &&& Int32.toUInt32 31)).toInt32 &&& 858993459)).toUInt32 >>> (Int32.toUInt32 4 &&& Int32.toUInt32 31)).toInt32) &&& 252645135) + ((((((a1 - ((a1.toUInt32 >>> (Int32.toUInt32 1 &&& Int32.toUInt32 31)).toInt32 &&& 1431655765)) &&& 858993459) + (((a1 - ((a1.toUInt32 >>> (Int32.toUInt32 1 &&& Int32.toUInt32 31)).toInt32 &&& 1431655765)).toUInt32 >>> (Int32.toUInt32 2 &&& Int32.toUInt32 31)).toInt32 &&& 858993459)) + ((((a1 - ((a1.toUInt32 >>> (Int32.toUInt32 1 &&& Int32.toUInt32 31)).toInt32 &&& 1431655765)) &&& 858993459) + (((a1 - ((a1.toUInt32 >>> (Int32.toUInt32 1 &&& Int32.toUInt32 31)).toInt32 &&& 1431655765)).toUInt32 >>> (Int32.toUInt32 2 &&& Int32.toUInt32 31)).toInt32 &&& 858993459)).toUInt32 >>> (Int32.toUInt32 4 &&& Int32.toUInt32 31)).toInt32) &&& 252645135).toUInt32 >>> (Int32.toUInt32 8 &&& Int32.toUInt32 31)).toInt32).toUInt32 >>> (Int32.toUInt32 16 &&& Int32.toUInt32 31)).toInt32)]) fe_26_46 rfl ?_
  refine ay_t_loc (pc := 47) (L' := [some (.int (((((((a1 - ((a1.toUInt32 >>> (Int32.toUInt32 1 &&& Int32.toUInt32 31)).toInt32 &&& 1431655765)) &&& 858993459) + (((a1 - ((a1.toUInt32 >>> (Int32.toUInt32 1 &&& Int32.toUInt32 31)).toInt32 &&& 1431655765)).toUInt32 >>> (Int32.toUInt32 2 &&& Int32.toUInt32 31)).toInt32 &&& 858993459)) + ((((a1 - ((a1.toUInt32 >>> (Int32.toUInt32 1 &&& Int32.toUInt32 31)).toInt32 &&& 1431655765)) &&& 858993459) + (((a1 - ((a1.toUInt32 >>> (Int32.toUInt32 1 &&& Int32.toUInt32 31)).toInt32 &&& 1431655765)).toUInt32 >>> (Int32.toUInt32 2 &&& Int32.toUInt32 31)).toInt32 &&& 858993459)).toUInt32 >>> (Int32.toUInt32 4 &&& Int32.toUInt32 31)).toInt32) &&& 252645135) + ((((((a1 - ((a1.toUInt32 >>> (Int32.toUInt32 1 &&& Int32.toUInt32 31)).toInt32 &&& 1431655765)) &&& 858993459) + (((a1 - ((a1.toUInt32 >>> (Int32.toUInt32 1 &&& Int32.toUInt32 31)).toInt32 &&& 1431655765)).toUInt32 >>> (Int32.toUInt32 2 &&& Int32.toUInt32 31)).toInt32 &&& 858993459)) + ((((a1 - ((a1.toUInt32 >>> (Int32.toUInt32 1 &&& Int32.toUInt32 31)).toInt32 &&& 1431655765)) &&& 858993459) + (((a1 - ((a1.toUInt32 >>> (Int32.toUInt32 1 &&& Int32.toUInt32 31)).toInt32 &&& 1431655765)).toUInt32 >>> (Int32.toUInt32 2 &&& Int32.toUInt32 31)).toInt32 &&& 858993459)).toUInt32 >>> (Int32.toUInt32 4 &&& Int32.toUInt32 31)).toInt32) &&& 252645135).toUInt32 >>> (Int32.toUInt32 8 &&& Int32.toUInt32 31)).toInt32) + (((((((a1 - ((a1.toUInt32 >>> (Int32.toUInt32 1 &&& Int32.toUInt32 31)).toInt32 &&& 1431655765)) &&& 858993459) + (((a1 - ((a1.toUInt32 >>> (Int32.toUInt32 1 &&& Int32.toUInt32 31)).toInt32 &&& 1431655765)).toUInt32 >>> (Int32.toUInt32 2 &&& Int32.toUInt32 31)).toInt32 &&& 858993459)) + ((((a1 - ((a1.toUInt32 >>> (Int32.toUInt32 1 &&& Int32.toUInt32 31)).toInt32 &&& 1431655765)) &&& 858993459) + (((a1 - ((a1.toUInt32 >>> (Int32.toUInt32 1 &&& Int32.toUInt32 31)).toInt32 &&& 1431655765)).toUInt32 >>> (Int32.toUInt32 2 &&& Int32.toUInt32 31)).toInt32 &&& 858993459)).toUInt32 >>> (Int32.toUInt32 4 &&& Int32.toUInt32 31)).toInt32) &&& 252645135) + ((((((a1 - ((a1.toUInt32 >>> (Int32.toUInt32 1 &&& Int32.toUInt32 31)).toInt32 &&& 1431655765)) &&& 858993459) + (((a1 - ((a1.toUInt32 >>> (Int32.toUInt32 1 &&& Int32.toUInt32 31)).toInt32 &&& 1431655765)).toUInt32 >>> (Int32.toUInt32 2 &&& Int32.toUInt32 31)).toInt32 &&& 858993459)) + ((((a1 - ((a1.toUInt32 >>> (Int32.toUInt32 1 &&& Int32.toUInt32 31)).toInt32 &&& 1431655765)) &&& 858993459) + (((a1 - ((a1.toUInt32 >>> (Int32.toUInt32 1 &&& Int32.toUInt32 31)).toInt32 &&& 1431655765)).toUInt32 >>> (Int32.toUInt32 2 &&& Int32.toUInt32 31)).toInt32 &&& 858993459)).toUInt32 >>> (Int32.toUInt32 4 &&& Int32.toUInt32 31)).toInt32) &&& 252645135).toUInt32 >>> (Int32.toUInt32 8 &&& Int32.toUInt32 31)).toInt32).toUInt32 >>> (Int32.toUInt32 16 &&& Int32.toUInt32 31)).toInt32))]) fe_26_47 rfl ?_
  refine ay_t_loc (pc := 48) fe_26_48 rfl ?_
  refine ay_t_stk (pc := 49) (S' := [.int 63, .int (((((((a1 - ((a1.toUInt32 >>> (Int32.toUInt32 1 &&& Int32.toUInt32 31)).toInt32 &&& 1431655765)) &&& 858993459) + (((a1 - ((a1.toUInt32 >>> (Int32.toUInt32 1 &&& Int32.toUInt32 31)).toInt32 &&& 1431655765)).toUInt32 >>> (Int32.toUInt32 2 &&& Int32.toUInt32 31)).toInt32 &&& 858993459)) + ((((a1 - ((a1.toUInt32 >>> (Int32.toUInt32 1 &&& Int32.toUInt32 31)).toInt32 &&& 1431655765)) &&& 858993459) + (((a1 - ((a1.toUInt32 >>> (Int32.toUInt32 1 &&& Int32.toUInt32 31)).toInt32 &&& 1431655765)).toUInt32 >>> (Int32.toUInt32 2 &&& Int32.toUInt32 31)).toInt32 &&& 858993459)).toUInt32 >>> (Int32.toUInt32 4 &&& Int32.toUInt32 31)).toInt32) &&& 252645135) + ((((((a1 - ((a1.toUInt32 >>> (Int32.toUInt32 1 &&& Int32.toUInt32 31)).toInt32 &&& 1431655765)) &&& 858993459) + (((a1 - ((a1.toUInt32 >>> (Int32.toUInt32 1 &&& Int32.toUInt32 31)).toInt32 &&& 1431655765)).toUInt32 >>> (Int32.toUInt32 2 &&& Int32.toUInt32 31)).toInt32 &&& 858993459)) + ((((a1 - ((a1.toUInt32 >>> (Int32.toUInt32 1 &&& Int32.toUInt32 31)).toInt32 &&& 1431655765)) &&& 858993459) + (((a1 - ((a1.toUInt32 >>> (Int32.toUInt32 1 &&& Int32.toUInt32 31)).toInt32 &&& 1431655765)).toUInt32 >>> (Int32.toUInt32 2 &&& Int32.toUInt32 31)).toInt32 &&& 858993459)).toUInt32 >>> (Int32.toUInt32 4 &&& Int32.toUInt32 31)).toInt32) &&& 252645135).toUInt32 >>> (Int32.toUInt32 8 &&& Int32.toUInt32 31)).toInt32) + (((((((a1 - ((a1.toUInt32 >>> (Int32.toUInt32 1 &&& Int32.toUInt32 31)).toInt32 &&& 1431655765)) &&& 858993459) + (((a1 - ((a1.toUInt32 >>> (Int32.toUInt32 1 &&& Int32.toUInt32 31)).toInt32 &&& 1431655765)).toUInt32 >>> (Int32.toUInt32 2 &&& Int32.toUInt32 31)).toInt32 &&& 858993459)) + ((((a1 - ((a1.toUInt32 >>> (Int32.toUInt32 1 &&& Int32.toUInt32 31)).toInt32 &&& 1431655765)) &&& 858993459) + (((a1 - ((a1.toUInt32 >>> (Int32.toUInt32 1 &&& Int32.toUInt32 31)).toInt32 &&& 1431655765)).toUInt32 >>> (Int32.toUInt32 2 &&& Int32.toUInt32 31)).toInt32 &&& 858993459)).toUInt32 >>> (Int32.toUInt32 4 &&& Int32.toUInt32 31)).toInt32) &&& 252645135) + ((((((a1 - ((a1.toUInt32 >>> (Int32.toUInt32 1 &&& Int32.toUInt32 31)).toInt32 &&& 1431655765)) &&& 858993459) + (((a1 - ((a1.toUInt32 >>> (Int32.toUInt32 1 &&& Int32.toUInt32 31)).toInt32 &&& 1431655765)).toUInt32 >>> (Int32.toUInt32 2 &&& Int32.toUInt32 31)).toInt32 &&& 858993459)) + ((((a1 - ((a1.toUInt32 >>> (Int32.toUInt32 1 &&& Int32.toUInt32 31)).toInt32 &&& 1431655765)) &&& 858993459) + (((a1 - ((a1.toUInt32 >>> (Int32.toUInt32 1 &&& Int32.toUInt32 31)).toInt32 &&& 1431655765)).toUInt32 >>> (Int32.toUInt32 2 &&& Int32.toUInt32 31)).toInt32 &&& 858993459)).toUInt32 >>> (Int32.toUInt32 4 &&& Int32.toUInt32 31)).toInt32) &&& 252645135).toUInt32 >>> (Int32.toUInt32 8 &&& Int32.toUInt32 31)).toInt32).toUInt32 >>> (Int32.toUInt32 16 &&& Int32.toUInt32 31)).toInt32)]) fe_26_49 rfl ?_
  refine ay_t_stk (pc := 51) (S' := [.int ((((((((a1 - ((a1.toUInt32 >>> (Int32.toUInt32 1 &&& Int32.toUInt32 31)).toInt32 &&& 1431655765)) &&& 858993459) + (((a1 - ((a1.toUInt32 >>> (Int32.toUInt32 1 &&& Int32.toUInt32 31)).toInt32 &&& 1431655765)).toUInt32 >>> (Int32.toUInt32 2 &&& Int32.toUInt32 31)).toInt32 &&& 858993459)) + ((((a1 - ((a1.toUInt32 >>> (Int32.toUInt32 1 &&& Int32.toUInt32 31)).toInt32 &&& 1431655765)) &&& 858993459) + (((a1 - ((a1.toUInt32 >>> (Int32.toUInt32 1 &&& Int32.toUInt32 31)).toInt32 &&& 1431655765)).toUInt32 >>> (Int32.toUInt32 2 &&& Int32.toUInt32 31)).toInt32 &&& 858993459)).toUInt32 >>> (Int32.toUInt32 4 &&& Int32.toUInt32 31)).toInt32) &&& 252645135) + ((((((a1 - ((a1.toUInt32 >>> (Int32.toUInt32 1 &&& Int32.toUInt32 31)).toInt32 &&& 1431655765)) &&& 858993459) + (((a1 - ((a1.toUInt32 >>> (Int32.toUInt32 1 &&& Int32.toUInt32 31)).toInt32 &&& 1431655765)).toUInt32 >>> (Int32.toUInt32 2 &&& Int32.toUInt32 31)).toInt32 &&& 858993459)) + ((((a1 - ((a1.toUInt32 >>> (Int32.toUInt32 1 &&& Int32.toUInt32 31)).toInt32 &&& 1431655765)) &&& 858993459) + (((a1 - ((a1.toUInt32 >>> (Int32.toUInt32 1 &&& Int32.toUInt32 31)).toInt32 &&& 1431655765)).toUInt32 >>> (Int32.toUInt32 2 &&& Int32.toUInt32 31)).toInt32 &&& 858993459)).toUInt32 >>> (Int32.toUInt32 4 &&& Int32.toUInt32 31)).toInt32) &&& 252645135).toUInt32 >>> (Int32.toUInt32 8 &&& Int32.toUInt32 31)).toInt32) + (((((((a1 - ((a1.toUInt32 >>> (Int32.toUInt32 1 &&& Int32.toUInt32 31)).toInt32 &&& 1431655765)) &&& 858993459) + (((a1 - ((a1.toUInt32 >>> (Int32.toUInt32 1 &&& Int32.toUInt32 31)).toInt32 &&& 1431655765)).toUInt32 >>> (Int32.toUInt32 2 &&& Int32.toUInt32 31)).toInt32 &&& 858993459)) + ((((a1 - ((a1.toUInt32 >>> (Int32.toUInt32 1 &&& Int32.toUInt32 31)).toInt32 &&& 1431655765)) &&& 858993459) + (((a1 - ((a1.toUInt32 >>> (Int32.toUInt32 1 &&& Int32.toUInt32 31)).toInt32 &&& 1431655765)).toUInt32 >>> (Int32.toUInt32 2 &&& Int32.toUInt32 31)).toInt32 &&& 858993459)).toUInt32 >>> (Int32.toUInt32 4 &&& Int32.toUInt32 31)).toInt32) &&& 252645135) + ((((((a1 - ((a1.toUInt32 >>> (Int32.toUInt32 1 &&& Int32.toUInt32 31)).toInt32 &&& 1431655765)) &&& 858993459) + (((a1 - ((a1.toUInt32 >>> (Int32.toUInt32 1 &&& Int32.toUInt32 31)).toInt32 &&& 1431655765)).toUInt32 >>> (Int32.toUInt32 2 &&& Int32.toUInt32 31)).toInt32 &&& 858993459)) + ((((a1 - ((a1.toUInt32 >>> (Int32.toUInt32 1 &&& Int32.toUInt32 31)).toInt32 &&& 1431655765)) &&& 858993459) + (((a1 - ((a1.toUInt32 >>> (Int32.toUInt32 1 &&& Int32.toUInt32 31)).toInt32 &&& 1431655765)).toUInt32 >>> (Int32.toUInt32 2 &&& Int32.toUInt32 31)).toInt32 &&& 858993459)).toUInt32 >>> (Int32.toUInt32 4 &&& Int32.toUInt32 31)).toInt32) &&& 252645135).toUInt32 >>> (Int32.toUInt32 8 &&& Int32.toUInt32 31)).toInt32).toUInt32 >>> (Int32.toUInt32 16 &&& Int32.toUInt32 31)).toInt32) &&& 63)]) fe_26_51 rfl ?_
  cases h
  exact ay_t_iret fe_26_52 rfl rfl
def fn_27_8 : Nat → Int32 → Int32 → am_DD → Option (Int32 × am_DD)
  | 0, _, _, _ => none
  | n + 1, x1, x2, D => (if (D 40 3) ≤ x2 then some (x1, D) else (match fn_26 (rw_at (D 44) 60 x2) D with | none => none | some (y5, D6) => fn_27_8 n (if x1 < y5 then y5 else x1) (x2 + 1) D6))
set_option maxHeartbeats 2000000 in
theorem ev_27_8 : ∀ (n : Nat) (x1 x2 : Int32) (D : am_DD) (y : Int32) (Z : am_DD), fn_27_8 n x1 x2 D = some (y, Z) → ay_to 27 8 [some (.ref 40), some (.int x1), some (.int x2)] [] D (.inl (some (.int y))) Z := by
  intro n
  induction n with
  | zero => intro x1 x2 D y Z h; cases h
  | succ n ih =>
    intro x1 x2 D y Z h
    rw [fn_27_8] at h
    refine ay_t_loc (pc := 8) fe_27_8 rfl ?_
    refine ay_t_loc (pc := 9) fe_27_9 rfl ?_
    refine ay_t_getI (pc := 10) fe_27_10 at_40 (by decide +kernel) rfl ?_
    by_cases hc4 : (D 40 3) ≤ x2
    · rw [if_pos hc4] at h
      refine ay_t_pos (pc := 13) hc4 fe_27_13 rfl ?_
      refine ay_t_loc (pc := 38) fe_27_38 rfl ?_
      cases h
      exact ay_t_iret fe_27_39 rfl rfl
    · rw [if_neg hc4] at h
      refine ay_t_neg (pc := 13) hc4 fe_27_13 rfl ?_
      refine ay_t_loc (pc := 16) fe_27_16 rfl ?_
      refine ay_t_loc (pc := 17) fe_27_17 rfl ?_
      refine ay_t_getR (pc := 18) (w := .ref 43) fe_27_18 at_40 (by decide +kernel) rfl ?_
      refine ay_t_loc (pc := 21) fe_27_21 rfl ?_
      refine ay_t_call (pc := 22) (w := some (.int (rw_at (D 44) 60 x2))) fe_27_22 (ay_args [.ref 43, .int x2] [.int x1] rfl rfl (Nat.le_of_ble_eq_true rfl) (Nat.le_of_ble_eq_true rfl)) (ay_rcvV at_43 rfl) (mt_at at_43 at_44 (by decide)) ?_
      cases hk7 : fn_26 (rw_at (D 44) 60 x2) D with
      | none => rw [hk7] at h; cases h
      | some z =>
        obtain ⟨y5, D6⟩ := z
        rw [hk7] at h
        dsimp only at h
        refine ay_t_call (pc := 25) (w := some (.int y5)) fe_27_25 (ay_args [.int (rw_at (D 44) 60 x2)] [.int x1] rfl rfl (Nat.le_of_ble_eq_true rfl) (Nat.le_of_ble_eq_true rfl)) rfl (ev_26 hk7) ?_
        refine ay_t_lib (pc := 28) (S' := [.int (if x1 < y5 then y5 else x1)]) fe_27_28 rfl ?_
        refine ay_t_loc (pc := 31) (L' := [some (.ref 40), some (.int (if x1 < y5 then y5 else x1)), some (.int x2)]) fe_27_31 rfl ?_
        refine ay_t_loc (pc := 32) (L' := [some (.ref 40), some (.int (if x1 < y5 then y5 else x1)), some (.int (x2 + 1))]) fe_27_32 rfl ?_
        refine ay_t_br (pc := 35) (pc' := 8) fe_27_35 rfl ?_
        exact ay_t_less (ay_ls (ay_ls (ay_ls ay_l0))) (ih _ _ _ _ _ h)
def fn_27 (D : am_DD) : Option (Int32 × am_DD) := (match fn_23 D with | none => none | some (y1, D2) => fn_27_8 am_F 0 0 D2)
set_option maxHeartbeats 2000000 in
theorem ev_27 {D : am_DD} {y : Int32} {Z : am_DD} (h : fn_27  D = some (y, Z)) : ay_mo 27 [.ref 40] D (.inl (some (.int y))) Z := by
  unfold fn_27 at h
  refine ay_m_of (L := [some (.ref 40), none, none]) rfl ?_
  refine ay_t_loc (pc := 0) fe_27_0 rfl ?_
  cases hk3 : fn_23 D with
  | none => rw [hk3] at h; cases h
  | some z =>
    obtain ⟨y1, D2⟩ := z
    rw [hk3] at h
    dsimp only at h
    refine ay_t_call (pc := 1) (w := none) fe_27_1 (ay_args [.ref 40] [] rfl rfl (Nat.le_of_ble_eq_true rfl) (Nat.le_of_ble_eq_true rfl)) (ay_rcvV at_40 rfl) (ev_23 hk3) ?_
    refine ay_t_stk (pc := 4) (S' := [.int 0]) fe_27_4 rfl ?_
    refine ay_t_loc (pc := 5) (L' := [some (.ref 40), some (.int 0), none]) fe_27_5 rfl ?_
    refine ay_t_stk (pc := 6) (S' := [.int 0]) fe_27_6 rfl ?_
    refine ay_t_loc (pc := 7) (L' := [some (.ref 40), some (.int 0), some (.int 0)]) fe_27_7 rfl ?_
    exact ay_t_less (ay_ls (ay_ls (ay_ls ay_l0))) (ev_27_8 _ _ _ _ _ _ h)
def fn_28_4 : Nat → Int32 → Int32 → Int32 → am_DD → Option (Int32 × am_DD)
  | 0, _, _, _, _ => none
  | n + 1, x1, x2, x3, D => (if (D 26 1) ≤ x3 then some (x2, D) else (match fn_17 x3 D with | none => none | some (y2, D3) => (match fn_17 (x3 - 1) D3 with | none => none | some (y5, D6) => (if ((y2 - y5) * x1) ≤ 0 then fn_28_4 n x1 (x2 + 0) (x3 + 1) D6 else fn_28_4 n x1 (x2 + 1) (x3 + 1) D6))))
set_option maxHeartbeats 2000000 in
theorem ev_28_4 : ∀ (n : Nat) (x1 x2 x3 : Int32) (D : am_DD) (y : Int32) (Z : am_DD), fn_28_4 n x1 x2 x3 D = some (y, Z) → ay_to 28 4 [some (.ref 40), some (.int x1), some (.int x2), some (.int x3), none] [] D (.inl (some (.int y))) Z := by
  intro n
  induction n with
  | zero => intro x1 x2 x3 D y Z h; cases h
  | succ n ih =>
    intro x1 x2 x3 D y Z h
    rw [fn_28_4] at h
    refine ay_t_loc (pc := 4) fe_28_4 rfl ?_
    refine ay_t_loc (pc := 5) fe_28_5 rfl ?_
    refine ay_t_getR (pc := 6) (w := .ref 26) fe_28_6 at_40 (by decide +kernel) rfl ?_
    refine ay_t_getI (pc := 9) fe_28_9 at_26 (by decide +kernel) rfl ?_
    by_cases hc1 : (D 26 1) ≤ x3
    · rw [if_pos hc1] at h
      refine ay_t_pos (pc := 12) hc1 fe_28_12 rfl ?_
      refine ay_t_loc (pc := 57) fe_28_57 rfl ?_
      cases h
      exact ay_t_iret fe_28_58 rfl rfl
    · rw [if_neg hc1] at h
      refine ay_t_neg (pc := 12) hc1 fe_28_12 rfl ?_
      refine ay_t_loc (pc := 15) fe_28_15 rfl ?_
      refine ay_t_getR (pc := 16) (w := .ref 26) fe_28_16 at_40 (by decide +kernel) rfl ?_
      refine ay_t_loc (pc := 19) fe_28_19 rfl ?_
      cases hk4 : fn_17 x3 D with
      | none => rw [hk4] at h; cases h
      | some z =>
        obtain ⟨y2, D3⟩ := z
        rw [hk4] at h
        dsimp only at h
        refine ay_t_call (pc := 20) (w := some (.int y2)) fe_28_20 (ay_args [.ref 26, .int x3] [] rfl rfl (Nat.le_of_ble_eq_true rfl) (Nat.le_of_ble_eq_true rfl)) (ay_rcvV at_26 rfl) (ev_17 hk4) ?_
        refine ay_t_loc (pc := 23) fe_28_23 rfl ?_
        refine ay_t_getR (pc := 24) (w := .ref 26) fe_28_24 at_40 (by decide +kernel) rfl ?_
        refine ay_t_loc (pc := 27) fe_28_27 rfl ?_
        refine ay_t_stk (pc := 28) (S' := [.int 1, .int x3, .ref 26, .int y2]) fe_28_28 rfl ?_
        refine ay_t_stk (pc := 29) (S' := [.int (x3 - 1), .ref 26, .int y2]) fe_28_29 rfl ?_
        cases hk7 : fn_17 (x3 - 1) D3 with
        | none => rw [hk7] at h; cases h
        | some z =>
          obtain ⟨y5, D6⟩ := z
          rw [hk7] at h
          dsimp only at h
          refine ay_t_call (pc := 30) (w := some (.int y5)) fe_28_30 (ay_args [.ref 26, .int (x3 - 1)] [.int y2] rfl rfl (Nat.le_of_ble_eq_true rfl) (Nat.le_of_ble_eq_true rfl)) (ay_rcvV at_26 rfl) (ev_17 hk7) ?_
          refine ay_t_stk (pc := 33) (S' := [.int (y2 - y5)]) fe_28_33 rfl ?_
          refine ay_t_loc (pc := 34) (L' := [some (.ref 40), some (.int x1), some (.int x2), some (.int x3), some (.int (y2 - y5))]) fe_28_34 rfl ?_
          refine ay_t_loc (pc := 36) fe_28_36 rfl ?_
          refine ay_t_loc (pc := 37) fe_28_37 rfl ?_
          refine ay_t_loc (pc := 39) fe_28_39 rfl ?_
          refine ay_t_stk (pc := 40) (S' := [.int ((y2 - y5) * x1), .int x2]) fe_28_40 rfl ?_
          by_cases hc8 : ((y2 - y5) * x1) ≤ 0
          · rw [if_pos hc8] at h
            refine ay_t_pos (pc := 41) hc8 fe_28_41 rfl ?_
            refine ay_t_stk (pc := 48) (S' := [.int 0, .int x2]) fe_28_48 rfl ?_
            refine ay_t_stk (pc := 49) (S' := [.int (x2 + 0)]) fe_28_49 rfl ?_
            refine ay_t_loc (pc := 50) (L' := [some (.ref 40), some (.int x1), some (.int (x2 + 0)), some (.int x3), some (.int (y2 - y5))]) fe_28_50 rfl ?_
            refine ay_t_loc (pc := 51) (L' := [some (.ref 40), some (.int x1), some (.int (x2 + 0)), some (.int (x3 + 1)), some (.int (y2 - y5))]) fe_28_51 rfl ?_
            refine ay_t_br (pc := 54) (pc' := 4) fe_28_54 rfl ?_
            exact ay_t_less (ay_ls (ay_ls (ay_ls (ay_ls (ay_ln ay_l0))))) (ih _ _ _ _ _ _ h)
          · rw [if_neg hc8] at h
            refine ay_t_neg (pc := 41) hc8 fe_28_41 rfl ?_
            refine ay_t_stk (pc := 44) (S' := [.int 1, .int x2]) fe_28_44 rfl ?_
            refine ay_t_br (pc := 45) (pc' := 49) fe_28_45 rfl ?_
            refine ay_t_stk (pc := 49) (S' := [.int (x2 + 1)]) fe_28_49 rfl ?_
            refine ay_t_loc (pc := 50) (L' := [some (.ref 40), some (.int x1), some (.int (x2 + 1)), some (.int x3), some (.int (y2 - y5))]) fe_28_50 rfl ?_
            refine ay_t_loc (pc := 51) (L' := [some (.ref 40), some (.int x1), some (.int (x2 + 1)), some (.int (x3 + 1)), some (.int (y2 - y5))]) fe_28_51 rfl ?_
            refine ay_t_br (pc := 54) (pc' := 4) fe_28_54 rfl ?_
            exact ay_t_less (ay_ls (ay_ls (ay_ls (ay_ls (ay_ln ay_l0))))) (ih _ _ _ _ _ _ h)
def fn_28 (a1 : Int32) (D : am_DD) : Option (Int32 × am_DD) := fn_28_4 am_F a1 0 1 D
set_option maxHeartbeats 2000000 in
theorem ev_28 {a1 : Int32} {D : am_DD} {y : Int32} {Z : am_DD} (h : fn_28 a1 D = some (y, Z)) : ay_mo 28 [.ref 40, .int a1] D (.inl (some (.int y))) Z := by
  unfold fn_28 at h
  refine ay_m_of (L := [some (.ref 40), some (.int a1), none, none, none]) rfl ?_
  refine ay_t_stk (pc := 0) (S' := [.int 0]) fe_28_0 rfl ?_
  refine ay_t_loc (pc := 1) (L' := [some (.ref 40), some (.int a1), some (.int 0), none, none]) fe_28_1 rfl ?_
  refine ay_t_stk (pc := 2) (S' := [.int 1]) fe_28_2 rfl ?_
  refine ay_t_loc (pc := 3) (L' := [some (.ref 40), some (.int a1), some (.int 0), some (.int 1), none]) fe_28_3 rfl ?_
  exact ay_t_less (ay_ls (ay_ls (ay_ls (ay_ls (ay_ls ay_l0))))) (ev_28_4 _ _ _ _ _ _ _ h)
def fn_29 (a1 : Int32) (D : am_DD) : Option (Int32 × Nat × am_DD) := (if a1 = 0 then some ((D 26 1), 0, D) else (if a1 = 1 then (match fn_20 D with | none => none | some (y3, D4) => some (y3, 0, D4)) else (if a1 = 2 then (match fn_21 D with | none => none | some (y7, D8) => some (y7, 0, D8)) else (if a1 = 3 then (match fn_25 D with | none => none | some (y11, D12) => some (y11, 0, D12)) else (if a1 = 4 then (match fn_27 D with | none => none | some (y15, D16) => some (y15, 0, D16)) else (if a1 = 5 then (match fn_28 1 D with | none => none | some (y19, D20) => some (y19, 0, D20)) else (if a1 = 6 then (match fn_28 (-1) D with | none => none | some (y23, D24) => some (y23, 0, D24)) else some (0, 1, D))))))))
set_option maxHeartbeats 2000000 in
theorem ev_29 {a1 : Int32} {D : am_DD} {y : Int32} {k : Nat} {Z : am_DD} (h : fn_29 a1 D = some (y, k, Z)) : ay_mo 29 [.ref 0, .int a1] D (ay_oc y k) Z := by
  unfold fn_29 at h
  refine ay_m_of (L := [some (.ref 0), some (.int a1)]) rfl ?_
  refine ay_t_loc (pc := 0) fe_29_0 rfl ?_
  by_cases hc1 : a1 = 0
  · rw [if_pos hc1] at h
    refine ay_t_br (pc := 1) (pc' := 44) (S' := []) fe_29_1 (by rw [hc1]; rfl) ?_
    refine ay_t_loc (pc := 44) fe_29_44 rfl ?_
    refine ay_t_getR (pc := 45) (w := .ref 1) fe_29_45 at_0 (by decide +kernel) rfl ?_
    refine ay_t_getR (pc := 48) (w := .ref 26) fe_29_48 at_1 (by decide +kernel) rfl ?_
    refine ay_t_getI (pc := 51) fe_29_51 at_26 (by decide +kernel) rfl ?_
    cases h
    exact ay_t_iret fe_29_54 rfl rfl
  · rw [if_neg hc1] at h
    by_cases hc2 : a1 = 1
    · rw [if_pos hc2] at h
      refine ay_t_br (pc := 1) (pc' := 55) (S' := []) fe_29_1 (by rw [hc2]; rfl) ?_
      refine ay_t_loc (pc := 55) fe_29_55 rfl ?_
      refine ay_t_getR (pc := 56) (w := .ref 40) fe_29_56 at_0 (by decide +kernel) rfl ?_
      cases hk5 : fn_20 D with
      | none => rw [hk5] at h; cases h
      | some z =>
        obtain ⟨y3, D4⟩ := z
        rw [hk5] at h
        dsimp only at h
        refine ay_t_call (pc := 59) (w := some (.int y3)) fe_29_59 (ay_args [.ref 40] [] rfl rfl (Nat.le_of_ble_eq_true rfl) (Nat.le_of_ble_eq_true rfl)) (ay_rcvV at_40 rfl) (ev_20 hk5) ?_
        cases h
        exact ay_t_iret fe_29_62 rfl rfl
    · rw [if_neg hc2] at h
      by_cases hc6 : a1 = 2
      · rw [if_pos hc6] at h
        refine ay_t_br (pc := 1) (pc' := 63) (S' := []) fe_29_1 (by rw [hc6]; rfl) ?_
        refine ay_t_loc (pc := 63) fe_29_63 rfl ?_
        refine ay_t_getR (pc := 64) (w := .ref 40) fe_29_64 at_0 (by decide +kernel) rfl ?_
        cases hk9 : fn_21 D with
        | none => rw [hk9] at h; cases h
        | some z =>
          obtain ⟨y7, D8⟩ := z
          rw [hk9] at h
          dsimp only at h
          refine ay_t_call (pc := 67) (w := some (.int y7)) fe_29_67 (ay_args [.ref 40] [] rfl rfl (Nat.le_of_ble_eq_true rfl) (Nat.le_of_ble_eq_true rfl)) (ay_rcvV at_40 rfl) (ev_21 hk9) ?_
          cases h
          exact ay_t_iret fe_29_70 rfl rfl
      · rw [if_neg hc6] at h
        by_cases hc10 : a1 = 3
        · rw [if_pos hc10] at h
          refine ay_t_br (pc := 1) (pc' := 71) (S' := []) fe_29_1 (by rw [hc10]; rfl) ?_
          refine ay_t_loc (pc := 71) fe_29_71 rfl ?_
          refine ay_t_getR (pc := 72) (w := .ref 40) fe_29_72 at_0 (by decide +kernel) rfl ?_
          cases hk13 : fn_25 D with
          | none => rw [hk13] at h; cases h
          | some z =>
            obtain ⟨y11, D12⟩ := z
            rw [hk13] at h
            dsimp only at h
            refine ay_t_call (pc := 75) (w := some (.int y11)) fe_29_75 (ay_args [.ref 40] [] rfl rfl (Nat.le_of_ble_eq_true rfl) (Nat.le_of_ble_eq_true rfl)) (ay_rcvV at_40 rfl) (ev_25 hk13) ?_
            cases h
            exact ay_t_iret fe_29_78 rfl rfl
        · rw [if_neg hc10] at h
          by_cases hc14 : a1 = 4
          · rw [if_pos hc14] at h
            refine ay_t_br (pc := 1) (pc' := 79) (S' := []) fe_29_1 (by rw [hc14]; rfl) ?_
            refine ay_t_loc (pc := 79) fe_29_79 rfl ?_
            refine ay_t_getR (pc := 80) (w := .ref 40) fe_29_80 at_0 (by decide +kernel) rfl ?_
            cases hk17 : fn_27 D with
            | none => rw [hk17] at h; cases h
            | some z =>
              obtain ⟨y15, D16⟩ := z
              rw [hk17] at h
              dsimp only at h
              refine ay_t_call (pc := 83) (w := some (.int y15)) fe_29_83 (ay_args [.ref 40] [] rfl rfl (Nat.le_of_ble_eq_true rfl) (Nat.le_of_ble_eq_true rfl)) (ay_rcvV at_40 rfl) (ev_27 hk17) ?_
              cases h
              exact ay_t_iret fe_29_86 rfl rfl
          · rw [if_neg hc14] at h
            by_cases hc18 : a1 = 5
            · rw [if_pos hc18] at h
              refine ay_t_br (pc := 1) (pc' := 87) (S' := []) fe_29_1 (by rw [hc18]; rfl) ?_
              refine ay_t_loc (pc := 87) fe_29_87 rfl ?_
              refine ay_t_getR (pc := 88) (w := .ref 40) fe_29_88 at_0 (by decide +kernel) rfl ?_
              refine ay_t_stk (pc := 91) (S' := [.int 1, .ref 40]) fe_29_91 rfl ?_
              cases hk21 : fn_28 1 D with
              | none => rw [hk21] at h; cases h
              | some z =>
                obtain ⟨y19, D20⟩ := z
                rw [hk21] at h
                dsimp only at h
                refine ay_t_call (pc := 92) (w := some (.int y19)) fe_29_92 (ay_args [.ref 40, .int 1] [] rfl rfl (Nat.le_of_ble_eq_true rfl) (Nat.le_of_ble_eq_true rfl)) (ay_rcvV at_40 rfl) (ev_28 hk21) ?_
                cases h
                exact ay_t_iret fe_29_95 rfl rfl
            · rw [if_neg hc18] at h
              by_cases hc22 : a1 = 6
              · rw [if_pos hc22] at h
                refine ay_t_br (pc := 1) (pc' := 96) (S' := []) fe_29_1 (by rw [hc22]; rfl) ?_
                refine ay_t_loc (pc := 96) fe_29_96 rfl ?_
                refine ay_t_getR (pc := 97) (w := .ref 40) fe_29_97 at_0 (by decide +kernel) rfl ?_
                refine ay_t_stk (pc := 100) (S' := [.int (-1), .ref 40]) fe_29_100 rfl ?_
                cases hk25 : fn_28 (-1) D with
                | none => rw [hk25] at h; cases h
                | some z =>
                  obtain ⟨y23, D24⟩ := z
                  rw [hk25] at h
                  dsimp only at h
                  refine ay_t_call (pc := 101) (w := some (.int y23)) fe_29_101 (ay_args [.ref 40, .int (-1)] [] rfl rfl (Nat.le_of_ble_eq_true rfl) (Nat.le_of_ble_eq_true rfl)) (ay_rcvV at_40 rfl) (ev_28 hk25) ?_
                  cases h
                  exact ay_t_iret fe_29_104 rfl rfl
              · rw [if_neg hc22] at h
                refine ay_t_br (pc := 1) (pc' := 105) fe_29_1 (ay_tab_def (by have z0 := ay_ne_toInt (c := 0) hc1 (by decide); have z1 := ay_ne_toInt (c := 1) hc2 (by decide); have z2 := ay_ne_toInt (c := 2) hc6 (by decide); have z3 := ay_ne_toInt (c := 3) hc10 (by decide); have z4 := ay_ne_toInt (c := 4) hc14 (by decide); have z5 := ay_ne_toInt (c := 5) hc18 (by decide); have z6 := ay_ne_toInt (c := 6) hc22 (by decide); omega) rfl) ?_
                cases h
                exact ay_t_thr fe_29_105 (by decide)
def fn_30 (a1 : Int32) (D : am_DD) : Option (Int32 × am_DD) := (if a1 < 0 then some (0, D) else (if 5 ≤ a1 then some (0, D) else some (1, D)))
set_option maxHeartbeats 2000000 in
theorem ev_30 {a1 : Int32} {D : am_DD} {y : Int32} {Z : am_DD} (h : fn_30 a1 D = some (y, Z)) : ay_mo 30 [.int a1] D (.inl (some (.int y))) Z := by
  unfold fn_30 at h
  refine ay_m_of (L := [some (.int a1)]) rfl ?_
  refine ay_t_loc (pc := 0) fe_30_0 rfl ?_
  by_cases hc1 : a1 < 0
  · rw [if_pos hc1] at h
    refine ay_t_pos (pc := 1) hc1 fe_30_1 rfl ?_
    refine ay_t_stk (pc := 13) (S' := [.int 0]) fe_30_13 rfl ?_
    cases h
    exact ay_t_iret fe_30_14 rfl rfl
  · rw [if_neg hc1] at h
    refine ay_t_neg (pc := 1) hc1 fe_30_1 rfl ?_
    refine ay_t_loc (pc := 4) fe_30_4 rfl ?_
    refine ay_t_stk (pc := 5) (S' := [.int 5, .int a1]) fe_30_5 rfl ?_
    by_cases hc2 : 5 ≤ a1
    · rw [if_pos hc2] at h
      refine ay_t_pos (pc := 6) hc2 fe_30_6 rfl ?_
      refine ay_t_stk (pc := 13) (S' := [.int 0]) fe_30_13 rfl ?_
      cases h
      exact ay_t_iret fe_30_14 rfl rfl
    · rw [if_neg hc2] at h
      refine ay_t_neg (pc := 6) hc2 fe_30_6 rfl ?_
      refine ay_t_stk (pc := 9) (S' := [.int 1]) fe_30_9 rfl ?_
      refine ay_t_br (pc := 10) (pc' := 14) fe_30_10 rfl ?_
      cases h
      exact ay_t_iret fe_30_14 rfl rfl
def fn_31 (a1 a2 : Int32) (D : am_DD) : Option (Int32 × am_DD) := some ((rw_at (D 16) 24 ((2 * a1) + a2)), D)
set_option maxHeartbeats 2000000 in
theorem ev_31 {a1 a2 : Int32} {D : am_DD} {y : Int32} {Z : am_DD} (h : fn_31 a1 a2 D = some (y, Z)) : ay_mo 31 [.ref 8, .int a1, .int a2] D (.inl (some (.int y))) Z := by
  unfold fn_31 at h
  refine ay_m_of (L := [some (.ref 8), some (.int a1), some (.int a2)]) rfl ?_
  refine ay_t_loc (pc := 0) fe_31_0 rfl ?_
  refine ay_t_getR (pc := 1) (w := .ref 15) fe_31_1 at_8 (by decide +kernel) rfl ?_
  refine ay_t_stk (pc := 4) (S' := [.int 2, .ref 15]) fe_31_4 rfl ?_
  refine ay_t_loc (pc := 5) fe_31_5 rfl ?_
  refine ay_t_stk (pc := 6) (S' := [.int (2 * a1), .ref 15]) fe_31_6 rfl ?_
  refine ay_t_loc (pc := 7) fe_31_7 rfl ?_
  refine ay_t_stk (pc := 8) (S' := [.int ((2 * a1) + a2), .ref 15]) fe_31_8 rfl ?_
  refine ay_t_call (pc := 9) (w := some (.int (rw_at (D 16) 24 ((2 * a1) + a2)))) fe_31_9 (ay_args [.ref 15, .int ((2 * a1) + a2)] [] rfl rfl (Nat.le_of_ble_eq_true rfl) (Nat.le_of_ble_eq_true rfl)) (ay_rcvV at_15 rfl) (mt_at at_15 at_16 (by decide)) ?_
  cases h
  exact ay_t_iret fe_31_12 rfl rfl
def fn_32_4 : Nat → Int32 → Int32 → Int32 → am_DD → Option (Int32 × am_DD)
  | 0, _, _, _, _ => none
  | n + 1, x1, x2, x3, D => (if (D 8 0) ≤ x3 then some (x2, D) else (match fn_31 x3 0 D with | none => none | some (y2, D3) => (if ¬ y2 = (20 + x1) then (match fn_31 x3 1 D3 with | none => none | some (y6, D7) => (if ¬ y6 = (20 + x1) then fn_32_4 n x1 ((x2 + 0) + 0) (x3 + 1) D7 else fn_32_4 n x1 ((x2 + 0) + 1) (x3 + 1) D7)) else (match fn_31 x3 1 D3 with | none => none | some (y10, D11) => (if ¬ y10 = (20 + x1) then fn_32_4 n x1 ((x2 + 1) + 0) (x3 + 1) D11 else fn_32_4 n x1 ((x2 + 1) + 1) (x3 + 1) D11)))))
set_option maxHeartbeats 2000000 in
theorem ev_32_4 : ∀ (n : Nat) (x1 x2 x3 : Int32) (D : am_DD) (y : Int32) (Z : am_DD), fn_32_4 n x1 x2 x3 D = some (y, Z) → ay_to 32 4 [some (.ref 8), some (.int x1), some (.int x2), some (.int x3)] [] D (.inl (some (.int y))) Z := by
  intro n
  induction n with
  | zero => intro x1 x2 x3 D y Z h; cases h
  | succ n ih =>
    intro x1 x2 x3 D y Z h
    rw [fn_32_4] at h
    refine ay_t_loc (pc := 4) fe_32_4 rfl ?_
    refine ay_t_loc (pc := 5) fe_32_5 rfl ?_
    refine ay_t_getI (pc := 6) fe_32_6 at_8 (by decide +kernel) rfl ?_
    by_cases hc1 : (D 8 0) ≤ x3
    · rw [if_pos hc1] at h
      refine ay_t_pos (pc := 9) hc1 fe_32_9 rfl ?_
      refine ay_t_loc (pc := 60) fe_32_60 rfl ?_
      cases h
      exact ay_t_iret fe_32_61 rfl rfl
    · rw [if_neg hc1] at h
      refine ay_t_neg (pc := 9) hc1 fe_32_9 rfl ?_
      refine ay_t_loc (pc := 12) fe_32_12 rfl ?_
      refine ay_t_loc (pc := 13) fe_32_13 rfl ?_
      refine ay_t_loc (pc := 14) fe_32_14 rfl ?_
      refine ay_t_stk (pc := 15) (S' := [.int 0, .int x3, .ref 8, .int x2]) fe_32_15 rfl ?_
      cases hk4 : fn_31 x3 0 D with
      | none => rw [hk4] at h; cases h
      | some z =>
        obtain ⟨y2, D3⟩ := z
        rw [hk4] at h
        dsimp only at h
        refine ay_t_call (pc := 16) (w := some (.int y2)) fe_32_16 (ay_args [.ref 8, .int x3, .int 0] [.int x2] rfl rfl (Nat.le_of_ble_eq_true rfl) (Nat.le_of_ble_eq_true rfl)) (ay_rcvV at_8 rfl) (ev_31 hk4) ?_
        refine ay_t_stk (pc := 19) (S' := [.int 20, .int y2, .int x2]) fe_32_19 rfl ?_
        refine ay_t_loc (pc := 21) fe_32_21 rfl ?_
        refine ay_t_stk (pc := 22) (S' := [.int (20 + x1), .int y2, .int x2]) fe_32_22 rfl ?_
        by_cases hc5 : ¬ y2 = (20 + x1)
        · rw [if_pos hc5] at h
          refine ay_t_pos (pc := 23) hc5 fe_32_23 rfl ?_
          refine ay_t_stk (pc := 30) (S' := [.int 0, .int x2]) fe_32_30 rfl ?_
          refine ay_t_stk (pc := 31) (S' := [.int (x2 + 0)]) fe_32_31 rfl ?_
          refine ay_t_loc (pc := 32) (L' := [some (.ref 8), some (.int x1), some (.int (x2 + 0)), some (.int x3)]) fe_32_32 rfl ?_
          refine ay_t_loc (pc := 33) fe_32_33 rfl ?_
          refine ay_t_loc (pc := 34) fe_32_34 rfl ?_
          refine ay_t_loc (pc := 35) fe_32_35 rfl ?_
          refine ay_t_stk (pc := 36) (S' := [.int 1, .int x3, .ref 8, .int (x2 + 0)]) fe_32_36 rfl ?_
          cases hk8 : fn_31 x3 1 D3 with
          | none => rw [hk8] at h; cases h
          | some z =>
            obtain ⟨y6, D7⟩ := z
            rw [hk8] at h
            dsimp only at h
            refine ay_t_call (pc := 37) (w := some (.int y6)) fe_32_37 (ay_args [.ref 8, .int x3, .int 1] [.int (x2 + 0)] rfl rfl (Nat.le_of_ble_eq_true rfl) (Nat.le_of_ble_eq_true rfl)) (ay_rcvV at_8 rfl) (ev_31 hk8) ?_
            refine ay_t_stk (pc := 40) (S' := [.int 20, .int y6, .int (x2 + 0)]) fe_32_40 rfl ?_
            refine ay_t_loc (pc := 42) fe_32_42 rfl ?_
            refine ay_t_stk (pc := 43) (S' := [.int (20 + x1), .int y6, .int (x2 + 0)]) fe_32_43 rfl ?_
            by_cases hc9 : ¬ y6 = (20 + x1)
            · rw [if_pos hc9] at h
              refine ay_t_pos (pc := 44) hc9 fe_32_44 rfl ?_
              refine ay_t_stk (pc := 51) (S' := [.int 0, .int (x2 + 0)]) fe_32_51 rfl ?_
              refine ay_t_stk (pc := 52) (S' := [.int ((x2 + 0) + 0)]) fe_32_52 rfl ?_
              refine ay_t_loc (pc := 53) (L' := [some (.ref 8), some (.int x1), some (.int ((x2 + 0) + 0)), some (.int x3)]) fe_32_53 rfl ?_
              refine ay_t_loc (pc := 54) (L' := [some (.ref 8), some (.int x1), some (.int ((x2 + 0) + 0)), some (.int (x3 + 1))]) fe_32_54 rfl ?_
              refine ay_t_br (pc := 57) (pc' := 4) fe_32_57 rfl ?_
              exact ay_t_less (ay_ls (ay_ls (ay_ls (ay_ls ay_l0)))) (ih _ _ _ _ _ _ h)
            · rw [if_neg hc9] at h
              refine ay_t_neg (pc := 44) hc9 fe_32_44 rfl ?_
              refine ay_t_stk (pc := 47) (S' := [.int 1, .int (x2 + 0)]) fe_32_47 rfl ?_
              refine ay_t_br (pc := 48) (pc' := 52) fe_32_48 rfl ?_
              refine ay_t_stk (pc := 52) (S' := [.int ((x2 + 0) + 1)]) fe_32_52 rfl ?_
              refine ay_t_loc (pc := 53) (L' := [some (.ref 8), some (.int x1), some (.int ((x2 + 0) + 1)), some (.int x3)]) fe_32_53 rfl ?_
              refine ay_t_loc (pc := 54) (L' := [some (.ref 8), some (.int x1), some (.int ((x2 + 0) + 1)), some (.int (x3 + 1))]) fe_32_54 rfl ?_
              refine ay_t_br (pc := 57) (pc' := 4) fe_32_57 rfl ?_
              exact ay_t_less (ay_ls (ay_ls (ay_ls (ay_ls ay_l0)))) (ih _ _ _ _ _ _ h)
        · rw [if_neg hc5] at h
          refine ay_t_neg (pc := 23) hc5 fe_32_23 rfl ?_
          refine ay_t_stk (pc := 26) (S' := [.int 1, .int x2]) fe_32_26 rfl ?_
          refine ay_t_br (pc := 27) (pc' := 31) fe_32_27 rfl ?_
          refine ay_t_stk (pc := 31) (S' := [.int (x2 + 1)]) fe_32_31 rfl ?_
          refine ay_t_loc (pc := 32) (L' := [some (.ref 8), some (.int x1), some (.int (x2 + 1)), some (.int x3)]) fe_32_32 rfl ?_
          refine ay_t_loc (pc := 33) fe_32_33 rfl ?_
          refine ay_t_loc (pc := 34) fe_32_34 rfl ?_
          refine ay_t_loc (pc := 35) fe_32_35 rfl ?_
          refine ay_t_stk (pc := 36) (S' := [.int 1, .int x3, .ref 8, .int (x2 + 1)]) fe_32_36 rfl ?_
          cases hk12 : fn_31 x3 1 D3 with
          | none => rw [hk12] at h; cases h
          | some z =>
            obtain ⟨y10, D11⟩ := z
            rw [hk12] at h
            dsimp only at h
            refine ay_t_call (pc := 37) (w := some (.int y10)) fe_32_37 (ay_args [.ref 8, .int x3, .int 1] [.int (x2 + 1)] rfl rfl (Nat.le_of_ble_eq_true rfl) (Nat.le_of_ble_eq_true rfl)) (ay_rcvV at_8 rfl) (ev_31 hk12) ?_
            refine ay_t_stk (pc := 40) (S' := [.int 20, .int y10, .int (x2 + 1)]) fe_32_40 rfl ?_
            refine ay_t_loc (pc := 42) fe_32_42 rfl ?_
            refine ay_t_stk (pc := 43) (S' := [.int (20 + x1), .int y10, .int (x2 + 1)]) fe_32_43 rfl ?_
            by_cases hc13 : ¬ y10 = (20 + x1)
            · rw [if_pos hc13] at h
              refine ay_t_pos (pc := 44) hc13 fe_32_44 rfl ?_
              refine ay_t_stk (pc := 51) (S' := [.int 0, .int (x2 + 1)]) fe_32_51 rfl ?_
              refine ay_t_stk (pc := 52) (S' := [.int ((x2 + 1) + 0)]) fe_32_52 rfl ?_
              refine ay_t_loc (pc := 53) (L' := [some (.ref 8), some (.int x1), some (.int ((x2 + 1) + 0)), some (.int x3)]) fe_32_53 rfl ?_
              refine ay_t_loc (pc := 54) (L' := [some (.ref 8), some (.int x1), some (.int ((x2 + 1) + 0)), some (.int (x3 + 1))]) fe_32_54 rfl ?_
              refine ay_t_br (pc := 57) (pc' := 4) fe_32_57 rfl ?_
              exact ay_t_less (ay_ls (ay_ls (ay_ls (ay_ls ay_l0)))) (ih _ _ _ _ _ _ h)
            · rw [if_neg hc13] at h
              refine ay_t_neg (pc := 44) hc13 fe_32_44 rfl ?_
              refine ay_t_stk (pc := 47) (S' := [.int 1, .int (x2 + 1)]) fe_32_47 rfl ?_
              refine ay_t_br (pc := 48) (pc' := 52) fe_32_48 rfl ?_
              refine ay_t_stk (pc := 52) (S' := [.int ((x2 + 1) + 1)]) fe_32_52 rfl ?_
              refine ay_t_loc (pc := 53) (L' := [some (.ref 8), some (.int x1), some (.int ((x2 + 1) + 1)), some (.int x3)]) fe_32_53 rfl ?_
              refine ay_t_loc (pc := 54) (L' := [some (.ref 8), some (.int x1), some (.int ((x2 + 1) + 1)), some (.int (x3 + 1))]) fe_32_54 rfl ?_
              refine ay_t_br (pc := 57) (pc' := 4) fe_32_57 rfl ?_
              exact ay_t_less (ay_ls (ay_ls (ay_ls (ay_ls ay_l0)))) (ih _ _ _ _ _ _ h)
def fn_32 (a1 : Int32) (D : am_DD) : Option (Int32 × am_DD) := fn_32_4 am_F a1 0 0 D
set_option maxHeartbeats 2000000 in
theorem ev_32 {a1 : Int32} {D : am_DD} {y : Int32} {Z : am_DD} (h : fn_32 a1 D = some (y, Z)) : ay_mo 32 [.ref 8, .int a1] D (.inl (some (.int y))) Z := by
  unfold fn_32 at h
  refine ay_m_of (L := [some (.ref 8), some (.int a1), none, none]) rfl ?_
  refine ay_t_stk (pc := 0) (S' := [.int 0]) fe_32_0 rfl ?_
  refine ay_t_loc (pc := 1) (L' := [some (.ref 8), some (.int a1), some (.int 0), none]) fe_32_1 rfl ?_
  refine ay_t_stk (pc := 2) (S' := [.int 0]) fe_32_2 rfl ?_
  refine ay_t_loc (pc := 3) (L' := [some (.ref 8), some (.int a1), some (.int 0), some (.int 0)]) fe_32_3 rfl ?_
  exact ay_t_less (ay_ls (ay_ls (ay_ls (ay_ls ay_l0)))) (ev_32_4 _ _ _ _ _ _ _ h)
def fn_33 (a1 a2 : Int32) (D : am_DD) : Option (Int32 × Nat × am_DD) := (match fn_30 a1 D with | none => none | some (y1, D2) => (if ¬ y1 = 0 then (if a2 = 0 then some ((rw_at (D2 5) 5 a1), 0, D2) else (if a2 = 1 then some ((rw_at (D2 7) 5 a1), 0, D2) else (if a2 = 2 then (match fn_32 a1 D2 with | none => none | some (y8, D9) => some (y8, 0, D9)) else some (0, 1, D2)))) else some (0, 3, D2)))
set_option maxHeartbeats 2000000 in
theorem ev_33 {a1 a2 : Int32} {D : am_DD} {y : Int32} {k : Nat} {Z : am_DD} (h : fn_33 a1 a2 D = some (y, k, Z)) : ay_mo 33 [.ref 0, .int a1, .int a2] D (ay_oc y k) Z := by
  unfold fn_33 at h
  refine ay_m_of (L := [some (.ref 0), some (.int a1), some (.int a2)]) rfl ?_
  refine ay_t_loc (pc := 0) fe_33_0 rfl ?_
  cases hk3 : fn_30 a1 D with
  | none => rw [hk3] at h; cases h
  | some z =>
    obtain ⟨y1, D2⟩ := z
    rw [hk3] at h
    dsimp only at h
    refine ay_t_call (pc := 1) (w := some (.int y1)) fe_33_1 (ay_args [.int a1] [] rfl rfl (Nat.le_of_ble_eq_true rfl) (Nat.le_of_ble_eq_true rfl)) rfl (ev_30 hk3) ?_
    by_cases hc4 : ¬ y1 = 0
    · rw [if_pos hc4] at h
      refine ay_t_pos (pc := 4) hc4 fe_33_4 rfl ?_
      refine ay_t_loc (pc := 17) fe_33_17 rfl ?_
      by_cases hc5 : a2 = 0
      · rw [if_pos hc5] at h
        refine ay_t_br (pc := 18) (pc' := 44) (S' := []) fe_33_18 (by rw [hc5]; rfl) ?_
        refine ay_t_loc (pc := 44) fe_33_44 rfl ?_
        refine ay_t_getR (pc := 45) (w := .ref 1) fe_33_45 at_0 (by decide +kernel) rfl ?_
        refine ay_t_getR (pc := 48) (w := .ref 4) fe_33_48 at_1 (by decide +kernel) rfl ?_
        refine ay_t_loc (pc := 51) fe_33_51 rfl ?_
        refine ay_t_call (pc := 52) (w := some (.int (rw_at (D2 5) 5 a1))) fe_33_52 (ay_args [.ref 4, .int a1] [] rfl rfl (Nat.le_of_ble_eq_true rfl) (Nat.le_of_ble_eq_true rfl)) (ay_rcvV at_4 rfl) (mt_at at_4 at_5 (by decide)) ?_
        cases h
        exact ay_t_iret fe_33_55 rfl rfl
      · rw [if_neg hc5] at h
        by_cases hc6 : a2 = 1
        · rw [if_pos hc6] at h
          refine ay_t_br (pc := 18) (pc' := 56) (S' := []) fe_33_18 (by rw [hc6]; rfl) ?_
          refine ay_t_loc (pc := 56) fe_33_56 rfl ?_
          refine ay_t_getR (pc := 57) (w := .ref 1) fe_33_57 at_0 (by decide +kernel) rfl ?_
          refine ay_t_getR (pc := 60) (w := .ref 6) fe_33_60 at_1 (by decide +kernel) rfl ?_
          refine ay_t_loc (pc := 63) fe_33_63 rfl ?_
          refine ay_t_call (pc := 64) (w := some (.int (rw_at (D2 7) 5 a1))) fe_33_64 (ay_args [.ref 6, .int a1] [] rfl rfl (Nat.le_of_ble_eq_true rfl) (Nat.le_of_ble_eq_true rfl)) (ay_rcvV at_6 rfl) (mt_at at_6 at_7 (by decide)) ?_
          cases h
          exact ay_t_iret fe_33_67 rfl rfl
        · rw [if_neg hc6] at h
          by_cases hc7 : a2 = 2
          · rw [if_pos hc7] at h
            refine ay_t_br (pc := 18) (pc' := 68) (S' := []) fe_33_18 (by rw [hc7]; rfl) ?_
            refine ay_t_loc (pc := 68) fe_33_68 rfl ?_
            refine ay_t_getR (pc := 69) (w := .ref 1) fe_33_69 at_0 (by decide +kernel) rfl ?_
            refine ay_t_getR (pc := 72) (w := .ref 8) fe_33_72 at_1 (by decide +kernel) rfl ?_
            refine ay_t_loc (pc := 75) fe_33_75 rfl ?_
            cases hk10 : fn_32 a1 D2 with
            | none => rw [hk10] at h; cases h
            | some z =>
              obtain ⟨y8, D9⟩ := z
              rw [hk10] at h
              dsimp only at h
              refine ay_t_call (pc := 76) (w := some (.int y8)) fe_33_76 (ay_args [.ref 8, .int a1] [] rfl rfl (Nat.le_of_ble_eq_true rfl) (Nat.le_of_ble_eq_true rfl)) (ay_rcvV at_8 rfl) (ev_32 hk10) ?_
              cases h
              exact ay_t_iret fe_33_79 rfl rfl
          · rw [if_neg hc7] at h
            refine ay_t_br (pc := 18) (pc' := 80) fe_33_18 (ay_tab_def (by have z0 := ay_ne_toInt (c := 0) hc5 (by decide); have z1 := ay_ne_toInt (c := 1) hc6 (by decide); have z2 := ay_ne_toInt (c := 2) hc7 (by decide); omega) rfl) ?_
            cases h
            exact ay_t_thr fe_33_80 (by decide)
    · rw [if_neg hc4] at h
      refine ay_t_neg (pc := 4) hc4 fe_33_4 rfl ?_
      cases h
      exact ay_t_thr fe_33_7 (by decide)
def fn_34 (a1 : Int32) (D : am_DD) : Option (Int32 × am_DD) := (if a1 < 0 then some (0, D) else (if (D 8 0) ≤ a1 then some (0, D) else some (1, D)))
set_option maxHeartbeats 2000000 in
theorem ev_34 {a1 : Int32} {D : am_DD} {y : Int32} {Z : am_DD} (h : fn_34 a1 D = some (y, Z)) : ay_mo 34 [.ref 8, .int a1] D (.inl (some (.int y))) Z := by
  unfold fn_34 at h
  refine ay_m_of (L := [some (.ref 8), some (.int a1)]) rfl ?_
  refine ay_t_loc (pc := 0) fe_34_0 rfl ?_
  by_cases hc1 : a1 < 0
  · rw [if_pos hc1] at h
    refine ay_t_pos (pc := 1) hc1 fe_34_1 rfl ?_
    refine ay_t_stk (pc := 16) (S' := [.int 0]) fe_34_16 rfl ?_
    cases h
    exact ay_t_iret fe_34_17 rfl rfl
  · rw [if_neg hc1] at h
    refine ay_t_neg (pc := 1) hc1 fe_34_1 rfl ?_
    refine ay_t_loc (pc := 4) fe_34_4 rfl ?_
    refine ay_t_loc (pc := 5) fe_34_5 rfl ?_
    refine ay_t_getI (pc := 6) fe_34_6 at_8 (by decide +kernel) rfl ?_
    by_cases hc2 : (D 8 0) ≤ a1
    · rw [if_pos hc2] at h
      refine ay_t_pos (pc := 9) hc2 fe_34_9 rfl ?_
      refine ay_t_stk (pc := 16) (S' := [.int 0]) fe_34_16 rfl ?_
      cases h
      exact ay_t_iret fe_34_17 rfl rfl
    · rw [if_neg hc2] at h
      refine ay_t_neg (pc := 9) hc2 fe_34_9 rfl ?_
      refine ay_t_stk (pc := 12) (S' := [.int 1]) fe_34_12 rfl ?_
      refine ay_t_br (pc := 13) (pc' := 17) fe_34_13 rfl ?_
      cases h
      exact ay_t_iret fe_34_17 rfl rfl
def fn_35_4 : Nat → Int32 → Int32 → am_DD → Option (Int32 × am_DD)
  | 0, _, _, _ => none
  | n + 1, x2, x3, D => (if 12 ≤ x3 then some (x3, D) else (match fn_34 x2 D with | none => none | some (y2, D3) => (if y2 = 0 then some (x3, D3) else (match fn_31 x2 (rw_at (D3 10) 12 x2) D3 with | none => none | some (y6, D7) => fn_35_4 n y6 (x3 + 1) D7))))
set_option maxHeartbeats 2000000 in
theorem ev_35_4 : ∀ (n : Nat) (x2 x3 : Int32) (D : am_DD) (y : Int32) (Z : am_DD), fn_35_4 n x2 x3 D = some (y, Z) → ay_to 35 4 [some (.ref 8), none, some (.int x2), some (.int x3)] [] D (.inl (some (.int y))) Z := by
  intro n
  induction n with
  | zero => intro x2 x3 D y Z h; cases h
  | succ n ih =>
    intro x2 x3 D y Z h
    rw [fn_35_4] at h
    refine ay_t_loc (pc := 4) fe_35_4 rfl ?_
    refine ay_t_stk (pc := 5) (S' := [.int 12, .int x3]) fe_35_5 rfl ?_
    by_cases hc1 : 12 ≤ x3
    · rw [if_pos hc1] at h
      refine ay_t_pos (pc := 7) hc1 fe_35_7 rfl ?_
      refine ay_t_loc (pc := 38) fe_35_38 rfl ?_
      cases h
      exact ay_t_iret fe_35_39 rfl rfl
    · rw [if_neg hc1] at h
      refine ay_t_neg (pc := 7) hc1 fe_35_7 rfl ?_
      refine ay_t_loc (pc := 10) fe_35_10 rfl ?_
      refine ay_t_loc (pc := 11) fe_35_11 rfl ?_
      cases hk4 : fn_34 x2 D with
      | none => rw [hk4] at h; cases h
      | some z =>
        obtain ⟨y2, D3⟩ := z
        rw [hk4] at h
        dsimp only at h
        refine ay_t_call (pc := 12) (w := some (.int y2)) fe_35_12 (ay_args [.ref 8, .int x2] [] rfl rfl (Nat.le_of_ble_eq_true rfl) (Nat.le_of_ble_eq_true rfl)) (ay_rcvV at_8 rfl) (ev_34 hk4) ?_
        by_cases hc5 : y2 = 0
        · rw [if_pos hc5] at h
          refine ay_t_pos (pc := 15) hc5 fe_35_15 rfl ?_
          refine ay_t_loc (pc := 38) fe_35_38 rfl ?_
          cases h
          exact ay_t_iret fe_35_39 rfl rfl
        · rw [if_neg hc5] at h
          refine ay_t_neg (pc := 15) hc5 fe_35_15 rfl ?_
          refine ay_t_loc (pc := 18) fe_35_18 rfl ?_
          refine ay_t_loc (pc := 19) fe_35_19 rfl ?_
          refine ay_t_loc (pc := 20) fe_35_20 rfl ?_
          refine ay_t_getR (pc := 21) (w := .ref 9) fe_35_21 at_8 (by decide +kernel) rfl ?_
          refine ay_t_loc (pc := 24) fe_35_24 rfl ?_
          refine ay_t_call (pc := 25) (w := some (.int (rw_at (D3 10) 12 x2))) fe_35_25 (ay_args [.ref 9, .int x2] [.int x2, .ref 8] rfl rfl (Nat.le_of_ble_eq_true rfl) (Nat.le_of_ble_eq_true rfl)) (ay_rcvV at_9 rfl) (mt_at at_9 at_10 (by decide)) ?_
          cases hk8 : fn_31 x2 (rw_at (D3 10) 12 x2) D3 with
          | none => rw [hk8] at h; cases h
          | some z =>
            obtain ⟨y6, D7⟩ := z
            rw [hk8] at h
            dsimp only at h
            refine ay_t_call (pc := 28) (w := some (.int y6)) fe_35_28 (ay_args [.ref 8, .int x2, .int (rw_at (D3 10) 12 x2)] [] rfl rfl (Nat.le_of_ble_eq_true rfl) (Nat.le_of_ble_eq_true rfl)) (ay_rcvV at_8 rfl) (ev_31 hk8) ?_
            refine ay_t_loc (pc := 31) (L' := [some (.ref 8), none, some (.int y6), some (.int x3)]) fe_35_31 rfl ?_
            refine ay_t_loc (pc := 32) (L' := [some (.ref 8), none, some (.int y6), some (.int (x3 + 1))]) fe_35_32 rfl ?_
            refine ay_t_br (pc := 35) (pc' := 4) fe_35_35 rfl ?_
            exact ay_t_less (ay_ls (ay_ls (ay_ls (ay_ls ay_l0)))) (ih _ _ _ _ _ h)
def fn_35 (a1 : Int32) (D : am_DD) : Option (Int32 × am_DD) := fn_35_4 am_F a1 0 D
set_option maxHeartbeats 2000000 in
theorem ev_35 {a1 : Int32} {D : am_DD} {y : Int32} {Z : am_DD} (h : fn_35 a1 D = some (y, Z)) : ay_mo 35 [.ref 8, .int a1] D (.inl (some (.int y))) Z := by
  unfold fn_35 at h
  refine ay_m_of (L := [some (.ref 8), some (.int a1), none, none]) rfl ?_
  refine ay_t_loc (pc := 0) fe_35_0 rfl ?_
  refine ay_t_loc (pc := 1) (L' := [some (.ref 8), some (.int a1), some (.int a1), none]) fe_35_1 rfl ?_
  refine ay_t_stk (pc := 2) (S' := [.int 0]) fe_35_2 rfl ?_
  refine ay_t_loc (pc := 3) (L' := [some (.ref 8), some (.int a1), some (.int a1), some (.int 0)]) fe_35_3 rfl ?_
  exact ay_t_less (ay_ls (ay_ln (ay_ls (ay_ls ay_l0)))) (ev_35_4 _ _ _ _ _ _ h)
def fn_36_4 : Nat → Int32 → Int32 → am_DD → Option (Int32 × am_DD)
  | 0, _, _, _ => none
  | n + 1, x2, x3, D => (if 12 ≤ x3 then some ((x2 - 20), D) else (match fn_34 x2 D with | none => none | some (y2, D3) => (if y2 = 0 then some ((x2 - 20), D3) else (match fn_31 x2 (rw_at (D3 10) 12 x2) D3 with | none => none | some (y6, D7) => fn_36_4 n y6 (x3 + 1) D7))))
set_option maxHeartbeats 2000000 in
theorem ev_36_4 : ∀ (n : Nat) (x2 x3 : Int32) (D : am_DD) (y : Int32) (Z : am_DD), fn_36_4 n x2 x3 D = some (y, Z) → ay_to 36 4 [some (.ref 8), none, some (.int x2), some (.int x3)] [] D (.inl (some (.int y))) Z := by
  intro n
  induction n with
  | zero => intro x2 x3 D y Z h; cases h
  | succ n ih =>
    intro x2 x3 D y Z h
    rw [fn_36_4] at h
    refine ay_t_loc (pc := 4) fe_36_4 rfl ?_
    refine ay_t_stk (pc := 5) (S' := [.int 12, .int x3]) fe_36_5 rfl ?_
    by_cases hc1 : 12 ≤ x3
    · rw [if_pos hc1] at h
      refine ay_t_pos (pc := 7) hc1 fe_36_7 rfl ?_
      refine ay_t_loc (pc := 38) fe_36_38 rfl ?_
      refine ay_t_stk (pc := 39) (S' := [.int 20, .int x2]) fe_36_39 rfl ?_
      refine ay_t_stk (pc := 41) (S' := [.int (x2 - 20)]) fe_36_41 rfl ?_
      cases h
      exact ay_t_iret fe_36_42 rfl rfl
    · rw [if_neg hc1] at h
      refine ay_t_neg (pc := 7) hc1 fe_36_7 rfl ?_
      refine ay_t_loc (pc := 10) fe_36_10 rfl ?_
      refine ay_t_loc (pc := 11) fe_36_11 rfl ?_
      cases hk4 : fn_34 x2 D with
      | none => rw [hk4] at h; cases h
      | some z =>
        obtain ⟨y2, D3⟩ := z
        rw [hk4] at h
        dsimp only at h
        refine ay_t_call (pc := 12) (w := some (.int y2)) fe_36_12 (ay_args [.ref 8, .int x2] [] rfl rfl (Nat.le_of_ble_eq_true rfl) (Nat.le_of_ble_eq_true rfl)) (ay_rcvV at_8 rfl) (ev_34 hk4) ?_
        by_cases hc5 : y2 = 0
        · rw [if_pos hc5] at h
          refine ay_t_pos (pc := 15) hc5 fe_36_15 rfl ?_
          refine ay_t_loc (pc := 38) fe_36_38 rfl ?_
          refine ay_t_stk (pc := 39) (S' := [.int 20, .int x2]) fe_36_39 rfl ?_
          refine ay_t_stk (pc := 41) (S' := [.int (x2 - 20)]) fe_36_41 rfl ?_
          cases h
          exact ay_t_iret fe_36_42 rfl rfl
        · rw [if_neg hc5] at h
          refine ay_t_neg (pc := 15) hc5 fe_36_15 rfl ?_
          refine ay_t_loc (pc := 18) fe_36_18 rfl ?_
          refine ay_t_loc (pc := 19) fe_36_19 rfl ?_
          refine ay_t_loc (pc := 20) fe_36_20 rfl ?_
          refine ay_t_getR (pc := 21) (w := .ref 9) fe_36_21 at_8 (by decide +kernel) rfl ?_
          refine ay_t_loc (pc := 24) fe_36_24 rfl ?_
          refine ay_t_call (pc := 25) (w := some (.int (rw_at (D3 10) 12 x2))) fe_36_25 (ay_args [.ref 9, .int x2] [.int x2, .ref 8] rfl rfl (Nat.le_of_ble_eq_true rfl) (Nat.le_of_ble_eq_true rfl)) (ay_rcvV at_9 rfl) (mt_at at_9 at_10 (by decide)) ?_
          cases hk8 : fn_31 x2 (rw_at (D3 10) 12 x2) D3 with
          | none => rw [hk8] at h; cases h
          | some z =>
            obtain ⟨y6, D7⟩ := z
            rw [hk8] at h
            dsimp only at h
            refine ay_t_call (pc := 28) (w := some (.int y6)) fe_36_28 (ay_args [.ref 8, .int x2, .int (rw_at (D3 10) 12 x2)] [] rfl rfl (Nat.le_of_ble_eq_true rfl) (Nat.le_of_ble_eq_true rfl)) (ay_rcvV at_8 rfl) (ev_31 hk8) ?_
            refine ay_t_loc (pc := 31) (L' := [some (.ref 8), none, some (.int y6), some (.int x3)]) fe_36_31 rfl ?_
            refine ay_t_loc (pc := 32) (L' := [some (.ref 8), none, some (.int y6), some (.int (x3 + 1))]) fe_36_32 rfl ?_
            refine ay_t_br (pc := 35) (pc' := 4) fe_36_35 rfl ?_
            exact ay_t_less (ay_ls (ay_ls (ay_ls (ay_ls ay_l0)))) (ih _ _ _ _ _ h)
def fn_36 (a1 : Int32) (D : am_DD) : Option (Int32 × am_DD) := fn_36_4 am_F a1 0 D
set_option maxHeartbeats 2000000 in
theorem ev_36 {a1 : Int32} {D : am_DD} {y : Int32} {Z : am_DD} (h : fn_36 a1 D = some (y, Z)) : ay_mo 36 [.ref 8, .int a1] D (.inl (some (.int y))) Z := by
  unfold fn_36 at h
  refine ay_m_of (L := [some (.ref 8), some (.int a1), none, none]) rfl ?_
  refine ay_t_loc (pc := 0) fe_36_0 rfl ?_
  refine ay_t_loc (pc := 1) (L' := [some (.ref 8), some (.int a1), some (.int a1), none]) fe_36_1 rfl ?_
  refine ay_t_stk (pc := 2) (S' := [.int 0]) fe_36_2 rfl ?_
  refine ay_t_loc (pc := 3) (L' := [some (.ref 8), some (.int a1), some (.int a1), some (.int 0)]) fe_36_3 rfl ?_
  exact ay_t_less (ay_ls (ay_ln (ay_ls (ay_ls ay_l0)))) (ev_36_4 _ _ _ _ _ _ h)
def fn_37 (a1 a2 : Int32) (D : am_DD) : Option (Int32 × Nat × am_DD) := (if a1 < 0 then some (0, 1, D) else (if a2 < 0 then some (0, 1, D) else (if a2 ≤ 4 then (if a1 < (D 19 0) then (if a2 = 0 then some ((rw_at (D 21) 40 a1), 0, D) else (if a2 = 1 then some ((rw_at (D 23) 40 a1), 0, D) else (if a2 = 2 then some ((rw_at (D 25) 40 a1), 0, D) else (if a2 = 3 then (match fn_35 (rw_at (D 21) 40 a1) D with | none => none | some (y9, D10) => some (y9, 0, D10)) else (match fn_36 (rw_at (D 21) 40 a1) D with | none => none | some (y12, D13) => some (y12, 0, D13)))))) else some ((-1), 0, D)) else some (0, 1, D))))
set_option maxHeartbeats 2000000 in
theorem ev_37 {a1 a2 : Int32} {D : am_DD} {y : Int32} {k : Nat} {Z : am_DD} (h : fn_37 a1 a2 D = some (y, k, Z)) : ay_mo 37 [.ref 0, .int a1, .int a2] D (ay_oc y k) Z := by
  unfold fn_37 at h
  refine ay_m_of (L := [some (.ref 0), some (.int a1), some (.int a2)]) rfl ?_
  refine ay_t_loc (pc := 0) fe_37_0 rfl ?_
  by_cases hc1 : a1 < 0
  · rw [if_pos hc1] at h
    refine ay_t_pos (pc := 1) hc1 fe_37_1 rfl ?_
    cases h
    exact ay_t_thr fe_37_13 (by decide)
  · rw [if_neg hc1] at h
    refine ay_t_neg (pc := 1) hc1 fe_37_1 rfl ?_
    refine ay_t_loc (pc := 4) fe_37_4 rfl ?_
    by_cases hc2 : a2 < 0
    · rw [if_pos hc2] at h
      refine ay_t_pos (pc := 5) hc2 fe_37_5 rfl ?_
      cases h
      exact ay_t_thr fe_37_13 (by decide)
    · rw [if_neg hc2] at h
      refine ay_t_neg (pc := 5) hc2 fe_37_5 rfl ?_
      refine ay_t_loc (pc := 8) fe_37_8 rfl ?_
      refine ay_t_stk (pc := 9) (S' := [.int 4, .int a2]) fe_37_9 rfl ?_
      by_cases hc3 : a2 ≤ 4
      · rw [if_pos hc3] at h
        refine ay_t_pos (pc := 10) hc3 fe_37_10 rfl ?_
        refine ay_t_loc (pc := 24) fe_37_24 rfl ?_
        refine ay_t_loc (pc := 25) fe_37_25 rfl ?_
        refine ay_t_getR (pc := 26) (w := .ref 1) fe_37_26 at_0 (by decide +kernel) rfl ?_
        refine ay_t_getR (pc := 29) (w := .ref 19) fe_37_29 at_1 (by decide +kernel) rfl ?_
        refine ay_t_getI (pc := 32) fe_37_32 at_19 (by decide +kernel) rfl ?_
        by_cases hc4 : a1 < (D 19 0)
        · rw [if_pos hc4] at h
          refine ay_t_pos (pc := 35) hc4 fe_37_35 rfl ?_
          refine ay_t_loc (pc := 40) fe_37_40 rfl ?_
          by_cases hc5 : a2 = 0
          · rw [if_pos hc5] at h
            refine ay_t_br (pc := 41) (pc' := 72) (S' := []) fe_37_41 (by rw [hc5]; rfl) ?_
            refine ay_t_loc (pc := 72) fe_37_72 rfl ?_
            refine ay_t_getR (pc := 73) (w := .ref 1) fe_37_73 at_0 (by decide +kernel) rfl ?_
            refine ay_t_getR (pc := 76) (w := .ref 19) fe_37_76 at_1 (by decide +kernel) rfl ?_
            refine ay_t_getR (pc := 79) (w := .ref 20) fe_37_79 at_19 (by decide +kernel) rfl ?_
            refine ay_t_loc (pc := 82) fe_37_82 rfl ?_
            refine ay_t_call (pc := 83) (w := some (.int (rw_at (D 21) 40 a1))) fe_37_83 (ay_args [.ref 20, .int a1] [] rfl rfl (Nat.le_of_ble_eq_true rfl) (Nat.le_of_ble_eq_true rfl)) (ay_rcvV at_20 rfl) (mt_at at_20 at_21 (by decide)) ?_
            cases h
            exact ay_t_iret fe_37_86 rfl rfl
          · rw [if_neg hc5] at h
            by_cases hc6 : a2 = 1
            · rw [if_pos hc6] at h
              refine ay_t_br (pc := 41) (pc' := 87) (S' := []) fe_37_41 (by rw [hc6]; rfl) ?_
              refine ay_t_loc (pc := 87) fe_37_87 rfl ?_
              refine ay_t_getR (pc := 88) (w := .ref 1) fe_37_88 at_0 (by decide +kernel) rfl ?_
              refine ay_t_getR (pc := 91) (w := .ref 19) fe_37_91 at_1 (by decide +kernel) rfl ?_
              refine ay_t_getR (pc := 94) (w := .ref 22) fe_37_94 at_19 (by decide +kernel) rfl ?_
              refine ay_t_loc (pc := 97) fe_37_97 rfl ?_
              refine ay_t_call (pc := 98) (w := some (.int (rw_at (D 23) 40 a1))) fe_37_98 (ay_args [.ref 22, .int a1] [] rfl rfl (Nat.le_of_ble_eq_true rfl) (Nat.le_of_ble_eq_true rfl)) (ay_rcvV at_22 rfl) (mt_at at_22 at_23 (by decide)) ?_
              cases h
              exact ay_t_iret fe_37_101 rfl rfl
            · rw [if_neg hc6] at h
              by_cases hc7 : a2 = 2
              · rw [if_pos hc7] at h
                refine ay_t_br (pc := 41) (pc' := 102) (S' := []) fe_37_41 (by rw [hc7]; rfl) ?_
                refine ay_t_loc (pc := 102) fe_37_102 rfl ?_
                refine ay_t_getR (pc := 103) (w := .ref 1) fe_37_103 at_0 (by decide +kernel) rfl ?_
                refine ay_t_getR (pc := 106) (w := .ref 19) fe_37_106 at_1 (by decide +kernel) rfl ?_
                refine ay_t_getR (pc := 109) (w := .ref 24) fe_37_109 at_19 (by decide +kernel) rfl ?_
                refine ay_t_loc (pc := 112) fe_37_112 rfl ?_
                refine ay_t_call (pc := 113) (w := some (.int (rw_at (D 25) 40 a1))) fe_37_113 (ay_args [.ref 24, .int a1] [] rfl rfl (Nat.le_of_ble_eq_true rfl) (Nat.le_of_ble_eq_true rfl)) (ay_rcvV at_24 rfl) (mt_at at_24 at_25 (by decide)) ?_
                cases h
                exact ay_t_iret fe_37_116 rfl rfl
              · rw [if_neg hc7] at h
                by_cases hc8 : a2 = 3
                · rw [if_pos hc8] at h
                  refine ay_t_br (pc := 41) (pc' := 117) (S' := []) fe_37_41 (by rw [hc8]; rfl) ?_
                  refine ay_t_loc (pc := 117) fe_37_117 rfl ?_
                  refine ay_t_getR (pc := 118) (w := .ref 1) fe_37_118 at_0 (by decide +kernel) rfl ?_
                  refine ay_t_getR (pc := 121) (w := .ref 8) fe_37_121 at_1 (by decide +kernel) rfl ?_
                  refine ay_t_loc (pc := 124) fe_37_124 rfl ?_
                  refine ay_t_getR (pc := 125) (w := .ref 1) fe_37_125 at_0 (by decide +kernel) rfl ?_
                  refine ay_t_getR (pc := 128) (w := .ref 19) fe_37_128 at_1 (by decide +kernel) rfl ?_
                  refine ay_t_getR (pc := 131) (w := .ref 20) fe_37_131 at_19 (by decide +kernel) rfl ?_
                  refine ay_t_loc (pc := 134) fe_37_134 rfl ?_
                  refine ay_t_call (pc := 135) (w := some (.int (rw_at (D 21) 40 a1))) fe_37_135 (ay_args [.ref 20, .int a1] [.ref 8] rfl rfl (Nat.le_of_ble_eq_true rfl) (Nat.le_of_ble_eq_true rfl)) (ay_rcvV at_20 rfl) (mt_at at_20 at_21 (by decide)) ?_
                  cases hk11 : fn_35 (rw_at (D 21) 40 a1) D with
                  | none => rw [hk11] at h; cases h
                  | some z =>
                    obtain ⟨y9, D10⟩ := z
                    rw [hk11] at h
                    dsimp only at h
                    refine ay_t_call (pc := 138) (w := some (.int y9)) fe_37_138 (ay_args [.ref 8, .int (rw_at (D 21) 40 a1)] [] rfl rfl (Nat.le_of_ble_eq_true rfl) (Nat.le_of_ble_eq_true rfl)) (ay_rcvV at_8 rfl) (ev_35 hk11) ?_
                    cases h
                    exact ay_t_iret fe_37_141 rfl rfl
                · rw [if_neg hc8] at h
                  refine ay_t_br (pc := 41) (pc' := 142) fe_37_41 (ay_tab_def (by have z0 := ay_ne_toInt (c := 0) hc5 (by decide); have z1 := ay_ne_toInt (c := 1) hc6 (by decide); have z2 := ay_ne_toInt (c := 2) hc7 (by decide); have z3 := ay_ne_toInt (c := 3) hc8 (by decide); omega) rfl) ?_
                  refine ay_t_loc (pc := 142) fe_37_142 rfl ?_
                  refine ay_t_getR (pc := 143) (w := .ref 1) fe_37_143 at_0 (by decide +kernel) rfl ?_
                  refine ay_t_getR (pc := 146) (w := .ref 8) fe_37_146 at_1 (by decide +kernel) rfl ?_
                  refine ay_t_loc (pc := 149) fe_37_149 rfl ?_
                  refine ay_t_getR (pc := 150) (w := .ref 1) fe_37_150 at_0 (by decide +kernel) rfl ?_
                  refine ay_t_getR (pc := 153) (w := .ref 19) fe_37_153 at_1 (by decide +kernel) rfl ?_
                  refine ay_t_getR (pc := 156) (w := .ref 20) fe_37_156 at_19 (by decide +kernel) rfl ?_
                  refine ay_t_loc (pc := 159) fe_37_159 rfl ?_
                  refine ay_t_call (pc := 160) (w := some (.int (rw_at (D 21) 40 a1))) fe_37_160 (ay_args [.ref 20, .int a1] [.ref 8] rfl rfl (Nat.le_of_ble_eq_true rfl) (Nat.le_of_ble_eq_true rfl)) (ay_rcvV at_20 rfl) (mt_at at_20 at_21 (by decide)) ?_
                  cases hk14 : fn_36 (rw_at (D 21) 40 a1) D with
                  | none => rw [hk14] at h; cases h
                  | some z =>
                    obtain ⟨y12, D13⟩ := z
                    rw [hk14] at h
                    dsimp only at h
                    refine ay_t_call (pc := 163) (w := some (.int y12)) fe_37_163 (ay_args [.ref 8, .int (rw_at (D 21) 40 a1)] [] rfl rfl (Nat.le_of_ble_eq_true rfl) (Nat.le_of_ble_eq_true rfl)) (ay_rcvV at_8 rfl) (ev_36 hk14) ?_
                    cases h
                    exact ay_t_iret fe_37_166 rfl rfl
        · rw [if_neg hc4] at h
          refine ay_t_neg (pc := 35) hc4 fe_37_35 rfl ?_
          refine ay_t_stk (pc := 38) (S' := [.int (-1)]) fe_37_38 rfl ?_
          cases h
          exact ay_t_iret fe_37_39 rfl rfl
      · rw [if_neg hc3] at h
        refine ay_t_neg (pc := 10) hc3 fe_37_10 rfl ?_
        cases h
        exact ay_t_thr fe_37_13 (by decide)
def fn_38 (a1 : Int32) (D : am_DD) : Option (Int32 × am_DD) := (match fn_16 a1 D with | none => none | some (y1, D2) => some ((rw_at (D2 30) 60 y1), D2))
set_option maxHeartbeats 2000000 in
theorem ev_38 {a1 : Int32} {D : am_DD} {y : Int32} {Z : am_DD} (h : fn_38 a1 D = some (y, Z)) : ay_mo 38 [.ref 26, .int a1] D (.inl (some (.int y))) Z := by
  unfold fn_38 at h
  refine ay_m_of (L := [some (.ref 26), some (.int a1)]) rfl ?_
  refine ay_t_loc (pc := 0) fe_38_0 rfl ?_
  refine ay_t_getR (pc := 1) (w := .ref 29) fe_38_1 at_26 (by decide +kernel) rfl ?_
  refine ay_t_loc (pc := 4) fe_38_4 rfl ?_
  refine ay_t_loc (pc := 5) fe_38_5 rfl ?_
  cases hk3 : fn_16 a1 D with
  | none => rw [hk3] at h; cases h
  | some z =>
    obtain ⟨y1, D2⟩ := z
    rw [hk3] at h
    dsimp only at h
    refine ay_t_call (pc := 6) (w := some (.int y1)) fe_38_6 (ay_args [.ref 26, .int a1] [.ref 29] rfl rfl (Nat.le_of_ble_eq_true rfl) (Nat.le_of_ble_eq_true rfl)) (ay_rcvV at_26 rfl) (ev_16 hk3) ?_
    refine ay_t_call (pc := 9) (w := some (.int (rw_at (D2 30) 60 y1))) fe_38_9 (ay_args [.ref 29, .int y1] [] rfl rfl (Nat.le_of_ble_eq_true rfl) (Nat.le_of_ble_eq_true rfl)) (ay_rcvV at_29 rfl) (mt_at at_29 at_30 (by decide)) ?_
    cases h
    exact ay_t_iret fe_38_12 rfl rfl
def fn_39 (a1 a2 : Int32) (D : am_DD) : Option (Int32 × Nat × am_DD) := (if a1 < 0 then some (0, 1, D) else (if a2 < 0 then some (0, 1, D) else (if a2 ≤ 2 then (if a1 < (D 26 1) then (if a2 = 0 then (match fn_22 (((D 26 1) - 1) - a1) D with | none => none | some (y6, D7) => some (y6, 0, D7)) else (if a2 = 1 then (match fn_38 (((D 26 1) - 1) - a1) D with | none => none | some (y10, D11) => some (y10, 0, D11)) else (match fn_17 (((D 26 1) - 1) - a1) D with | none => none | some (y13, D14) => some (y13, 0, D14)))) else some ((-1), 0, D)) else some (0, 1, D))))
set_option maxHeartbeats 2000000 in
theorem ev_39 {a1 a2 : Int32} {D : am_DD} {y : Int32} {k : Nat} {Z : am_DD} (h : fn_39 a1 a2 D = some (y, k, Z)) : ay_mo 39 [.ref 0, .int a1, .int a2] D (ay_oc y k) Z := by
  unfold fn_39 at h
  refine ay_m_of (L := [some (.ref 0), some (.int a1), some (.int a2), none]) rfl ?_
  refine ay_t_loc (pc := 0) fe_39_0 rfl ?_
  by_cases hc1 : a1 < 0
  · rw [if_pos hc1] at h
    refine ay_t_pos (pc := 1) hc1 fe_39_1 rfl ?_
    cases h
    exact ay_t_thr fe_39_13 (by decide)
  · rw [if_neg hc1] at h
    refine ay_t_neg (pc := 1) hc1 fe_39_1 rfl ?_
    refine ay_t_loc (pc := 4) fe_39_4 rfl ?_
    by_cases hc2 : a2 < 0
    · rw [if_pos hc2] at h
      refine ay_t_pos (pc := 5) hc2 fe_39_5 rfl ?_
      cases h
      exact ay_t_thr fe_39_13 (by decide)
    · rw [if_neg hc2] at h
      refine ay_t_neg (pc := 5) hc2 fe_39_5 rfl ?_
      refine ay_t_loc (pc := 8) fe_39_8 rfl ?_
      refine ay_t_stk (pc := 9) (S' := [.int 2, .int a2]) fe_39_9 rfl ?_
      by_cases hc3 : a2 ≤ 2
      · rw [if_pos hc3] at h
        refine ay_t_pos (pc := 10) hc3 fe_39_10 rfl ?_
        refine ay_t_loc (pc := 24) fe_39_24 rfl ?_
        refine ay_t_loc (pc := 25) fe_39_25 rfl ?_
        refine ay_t_getR (pc := 26) (w := .ref 1) fe_39_26 at_0 (by decide +kernel) rfl ?_
        refine ay_t_getR (pc := 29) (w := .ref 26) fe_39_29 at_1 (by decide +kernel) rfl ?_
        refine ay_t_getI (pc := 32) fe_39_32 at_26 (by decide +kernel) rfl ?_
        by_cases hc4 : a1 < (D 26 1)
        · rw [if_pos hc4] at h
          refine ay_t_pos (pc := 35) hc4 fe_39_35 rfl ?_
          refine ay_t_loc (pc := 40) fe_39_40 rfl ?_
          refine ay_t_getR (pc := 41) (w := .ref 1) fe_39_41 at_0 (by decide +kernel) rfl ?_
          refine ay_t_getR (pc := 44) (w := .ref 26) fe_39_44 at_1 (by decide +kernel) rfl ?_
          refine ay_t_getI (pc := 47) fe_39_47 at_26 (by decide +kernel) rfl ?_
          refine ay_t_stk (pc := 50) (S' := [.int 1, .int (D 26 1)]) fe_39_50 rfl ?_
          refine ay_t_stk (pc := 51) (S' := [.int ((D 26 1) - 1)]) fe_39_51 rfl ?_
          refine ay_t_loc (pc := 52) fe_39_52 rfl ?_
          refine ay_t_stk (pc := 53) (S' := [.int (((D 26 1) - 1) - a1)]) fe_39_53 rfl ?_
          refine ay_t_loc (pc := 54) (L' := [some (.ref 0), some (.int a1), some (.int a2), some (.int (((D 26 1) - 1) - a1))]) fe_39_54 rfl ?_
          refine ay_t_loc (pc := 55) fe_39_55 rfl ?_
          by_cases hc5 : a2 = 0
          · rw [if_pos hc5] at h
            refine ay_t_br (pc := 56) (pc' := 84) (S' := []) fe_39_56 (by rw [hc5]; rfl) ?_
            refine ay_t_loc (pc := 84) fe_39_84 rfl ?_
            refine ay_t_getR (pc := 85) (w := .ref 1) fe_39_85 at_0 (by decide +kernel) rfl ?_
            refine ay_t_getR (pc := 88) (w := .ref 26) fe_39_88 at_1 (by decide +kernel) rfl ?_
            refine ay_t_loc (pc := 91) fe_39_91 rfl ?_
            cases hk8 : fn_22 (((D 26 1) - 1) - a1) D with
            | none => rw [hk8] at h; cases h
            | some z =>
              obtain ⟨y6, D7⟩ := z
              rw [hk8] at h
              dsimp only at h
              refine ay_t_call (pc := 92) (w := some (.int y6)) fe_39_92 (ay_args [.ref 26, .int (((D 26 1) - 1) - a1)] [] rfl rfl (Nat.le_of_ble_eq_true rfl) (Nat.le_of_ble_eq_true rfl)) (ay_rcvV at_26 rfl) (ev_22 hk8) ?_
              cases h
              exact ay_t_iret fe_39_95 rfl rfl
          · rw [if_neg hc5] at h
            by_cases hc9 : a2 = 1
            · rw [if_pos hc9] at h
              refine ay_t_br (pc := 56) (pc' := 96) (S' := []) fe_39_56 (by rw [hc9]; rfl) ?_
              refine ay_t_loc (pc := 96) fe_39_96 rfl ?_
              refine ay_t_getR (pc := 97) (w := .ref 1) fe_39_97 at_0 (by decide +kernel) rfl ?_
              refine ay_t_getR (pc := 100) (w := .ref 26) fe_39_100 at_1 (by decide +kernel) rfl ?_
              refine ay_t_loc (pc := 103) fe_39_103 rfl ?_
              cases hk12 : fn_38 (((D 26 1) - 1) - a1) D with
              | none => rw [hk12] at h; cases h
              | some z =>
                obtain ⟨y10, D11⟩ := z
                rw [hk12] at h
                dsimp only at h
                refine ay_t_call (pc := 104) (w := some (.int y10)) fe_39_104 (ay_args [.ref 26, .int (((D 26 1) - 1) - a1)] [] rfl rfl (Nat.le_of_ble_eq_true rfl) (Nat.le_of_ble_eq_true rfl)) (ay_rcvV at_26 rfl) (ev_38 hk12) ?_
                cases h
                exact ay_t_iret fe_39_107 rfl rfl
            · rw [if_neg hc9] at h
              refine ay_t_br (pc := 56) (pc' := 108) fe_39_56 (ay_look_def (x := a2) (by simp only [List.toList_toArray, Op.lookupswitch.offset_cons, Op.lookupswitch.offset_nil, if_neg (Ne.symm (ay_ne_toInt (c := 0) hc5 (by decide))), if_neg (Ne.symm (ay_ne_toInt (c := 1) hc9 (by decide)))]) rfl) ?_
              refine ay_t_loc (pc := 108) fe_39_108 rfl ?_
              refine ay_t_getR (pc := 109) (w := .ref 1) fe_39_109 at_0 (by decide +kernel) rfl ?_
              refine ay_t_getR (pc := 112) (w := .ref 26) fe_39_112 at_1 (by decide +kernel) rfl ?_
              refine ay_t_loc (pc := 115) fe_39_115 rfl ?_
              cases hk15 : fn_17 (((D 26 1) - 1) - a1) D with
              | none => rw [hk15] at h; cases h
              | some z =>
                obtain ⟨y13, D14⟩ := z
                rw [hk15] at h
                dsimp only at h
                refine ay_t_call (pc := 116) (w := some (.int y13)) fe_39_116 (ay_args [.ref 26, .int (((D 26 1) - 1) - a1)] [] rfl rfl (Nat.le_of_ble_eq_true rfl) (Nat.le_of_ble_eq_true rfl)) (ay_rcvV at_26 rfl) (ev_17 hk15) ?_
                cases h
                exact ay_t_iret fe_39_119 rfl rfl
        · rw [if_neg hc4] at h
          refine ay_t_neg (pc := 35) hc4 fe_39_35 rfl ?_
          refine ay_t_stk (pc := 38) (S' := [.int (-1)]) fe_39_38 rfl ?_
          cases h
          exact ay_t_iret fe_39_39 rfl rfl
      · rw [if_neg hc3] at h
        refine ay_t_neg (pc := 10) hc3 fe_39_10 rfl ?_
        cases h
        exact ay_t_thr fe_39_13 (by decide)
def fn_40_4 : Nat → Int32 → Int32 → Int32 → am_DD → Option (Int32 × am_DD)
  | 0, _, _, _, _ => none
  | n + 1, x1, x2, x3, D => (if (D 26 1) ≤ x3 then some (x2, D) else (match fn_22 x3 D with | none => none | some (y2, D3) => (if ¬ y2 = x1 then fn_40_4 n x1 x2 (x3 + 1) D3 else (match fn_17 x3 D3 with | none => none | some (y6, D7) => fn_40_4 n x1 (x2 ||| (1 <<< (y6 &&& 31))) (x3 + 1) D7))))
set_option maxHeartbeats 2000000 in
theorem ev_40_4 : ∀ (n : Nat) (x1 x2 x3 : Int32) (D : am_DD) (y : Int32) (Z : am_DD), fn_40_4 n x1 x2 x3 D = some (y, Z) → ay_to 40 4 [some (.ref 40), some (.int x1), some (.int x2), some (.int x3)] [] D (.inl (some (.int y))) Z := by
  intro n
  induction n with
  | zero => intro x1 x2 x3 D y Z h; cases h
  | succ n ih =>
    intro x1 x2 x3 D y Z h
    rw [fn_40_4] at h
    refine ay_t_loc (pc := 4) fe_40_4 rfl ?_
    refine ay_t_loc (pc := 5) fe_40_5 rfl ?_
    refine ay_t_getR (pc := 6) (w := .ref 26) fe_40_6 at_40 (by decide +kernel) rfl ?_
    refine ay_t_getI (pc := 9) fe_40_9 at_26 (by decide +kernel) rfl ?_
    by_cases hc1 : (D 26 1) ≤ x3
    · rw [if_pos hc1] at h
      refine ay_t_pos (pc := 12) hc1 fe_40_12 rfl ?_
      refine ay_t_loc (pc := 46) fe_40_46 rfl ?_
      cases h
      exact ay_t_iret fe_40_47 rfl rfl
    · rw [if_neg hc1] at h
      refine ay_t_neg (pc := 12) hc1 fe_40_12 rfl ?_
      refine ay_t_loc (pc := 15) fe_40_15 rfl ?_
      refine ay_t_getR (pc := 16) (w := .ref 26) fe_40_16 at_40 (by decide +kernel) rfl ?_
      refine ay_t_loc (pc := 19) fe_40_19 rfl ?_
      cases hk4 : fn_22 x3 D with
      | none => rw [hk4] at h; cases h
      | some z =>
        obtain ⟨y2, D3⟩ := z
        rw [hk4] at h
        dsimp only at h
        refine ay_t_call (pc := 20) (w := some (.int y2)) fe_40_20 (ay_args [.ref 26, .int x3] [] rfl rfl (Nat.le_of_ble_eq_true rfl) (Nat.le_of_ble_eq_true rfl)) (ay_rcvV at_26 rfl) (ev_22 hk4) ?_
        refine ay_t_loc (pc := 23) fe_40_23 rfl ?_
        by_cases hc5 : ¬ y2 = x1
        · rw [if_pos hc5] at h
          refine ay_t_pos (pc := 24) hc5 fe_40_24 rfl ?_
          refine ay_t_loc (pc := 40) (L' := [some (.ref 40), some (.int x1), some (.int x2), some (.int (x3 + 1))]) fe_40_40 rfl ?_
          refine ay_t_br (pc := 43) (pc' := 4) fe_40_43 rfl ?_
          exact ay_t_less (ay_ls (ay_ls (ay_ls (ay_ls ay_l0)))) (ih _ _ _ _ _ _ h)
        · rw [if_neg hc5] at h
          refine ay_t_neg (pc := 24) hc5 fe_40_24 rfl ?_
          refine ay_t_loc (pc := 27) fe_40_27 rfl ?_
          refine ay_t_stk (pc := 28) (S' := [.int 1, .int x2]) fe_40_28 rfl ?_
          refine ay_t_loc (pc := 29) fe_40_29 rfl ?_
          refine ay_t_getR (pc := 30) (w := .ref 26) fe_40_30 at_40 (by decide +kernel) rfl ?_
          refine ay_t_loc (pc := 33) fe_40_33 rfl ?_
          cases hk8 : fn_17 x3 D3 with
          | none => rw [hk8] at h; cases h
          | some z =>
            obtain ⟨y6, D7⟩ := z
            rw [hk8] at h
            dsimp only at h
            refine ay_t_call (pc := 34) (w := some (.int y6)) fe_40_34 (ay_args [.ref 26, .int x3] [.int 1, .int x2] rfl rfl (Nat.le_of_ble_eq_true rfl) (Nat.le_of_ble_eq_true rfl)) (ay_rcvV at_26 rfl) (ev_17 hk8) ?_
            refine ay_t_stk (pc := 37) (S' := [.int (1 <<< (y6 &&& 31)), .int x2]) fe_40_37 rfl ?_
            refine ay_t_stk (pc := 38) (S' := [.int (x2 ||| (1 <<< (y6 &&& 31)))]) fe_40_38 rfl ?_
            refine ay_t_loc (pc := 39) (L' := [some (.ref 40), some (.int x1), some (.int (x2 ||| (1 <<< (y6 &&& 31)))), some (.int x3)]) fe_40_39 rfl ?_
            refine ay_t_loc (pc := 40) (L' := [some (.ref 40), some (.int x1), some (.int (x2 ||| (1 <<< (y6 &&& 31)))), some (.int (x3 + 1))]) fe_40_40 rfl ?_
            refine ay_t_br (pc := 43) (pc' := 4) fe_40_43 rfl ?_
            exact ay_t_less (ay_ls (ay_ls (ay_ls (ay_ls ay_l0)))) (ih _ _ _ _ _ _ h)
def fn_40 (a1 : Int32) (D : am_DD) : Option (Int32 × am_DD) := fn_40_4 am_F a1 0 0 D
set_option maxHeartbeats 2000000 in
theorem ev_40 {a1 : Int32} {D : am_DD} {y : Int32} {Z : am_DD} (h : fn_40 a1 D = some (y, Z)) : ay_mo 40 [.ref 40, .int a1] D (.inl (some (.int y))) Z := by
  unfold fn_40 at h
  refine ay_m_of (L := [some (.ref 40), some (.int a1), none, none]) rfl ?_
  refine ay_t_stk (pc := 0) (S' := [.int 0]) fe_40_0 rfl ?_
  refine ay_t_loc (pc := 1) (L' := [some (.ref 40), some (.int a1), some (.int 0), none]) fe_40_1 rfl ?_
  refine ay_t_stk (pc := 2) (S' := [.int 0]) fe_40_2 rfl ?_
  refine ay_t_loc (pc := 3) (L' := [some (.ref 40), some (.int a1), some (.int 0), some (.int 0)]) fe_40_3 rfl ?_
  exact ay_t_less (ay_ls (ay_ls (ay_ls (ay_ls ay_l0)))) (ev_40_4 _ _ _ _ _ _ _ h)
def fn_41 (a1 : Int32) (D : am_DD) : Option (Int32 × Nat × am_DD) := (if 0 ≤ a1 then (match fn_40 a1 D with | none => none | some (y2, D3) => some (y2, 0, D3)) else some (0, 1, D))
set_option maxHeartbeats 2000000 in
theorem ev_41 {a1 : Int32} {D : am_DD} {y : Int32} {k : Nat} {Z : am_DD} (h : fn_41 a1 D = some (y, k, Z)) : ay_mo 41 [.ref 0, .int a1] D (ay_oc y k) Z := by
  unfold fn_41 at h
  refine ay_m_of (L := [some (.ref 0), some (.int a1)]) rfl ?_
  refine ay_t_loc (pc := 0) fe_41_0 rfl ?_
  by_cases hc1 : 0 ≤ a1
  · rw [if_pos hc1] at h
    refine ay_t_pos (pc := 1) hc1 fe_41_1 rfl ?_
    refine ay_t_loc (pc := 15) fe_41_15 rfl ?_
    refine ay_t_getR (pc := 16) (w := .ref 40) fe_41_16 at_0 (by decide +kernel) rfl ?_
    refine ay_t_loc (pc := 19) fe_41_19 rfl ?_
    cases hk4 : fn_40 a1 D with
    | none => rw [hk4] at h; cases h
    | some z =>
      obtain ⟨y2, D3⟩ := z
      rw [hk4] at h
      dsimp only at h
      refine ay_t_call (pc := 20) (w := some (.int y2)) fe_41_20 (ay_args [.ref 40, .int a1] [] rfl rfl (Nat.le_of_ble_eq_true rfl) (Nat.le_of_ble_eq_true rfl)) (ay_rcvV at_40 rfl) (ev_40 hk4) ?_
      cases h
      exact ay_t_iret fe_41_23 rfl rfl
  · rw [if_neg hc1] at h
    refine ay_t_neg (pc := 1) hc1 fe_41_1 rfl ?_
    cases h
    exact ay_t_thr fe_41_4 (by decide)
def fn_42 (a1 a2 : Int32) (D : am_DD) : Option (Int32 × am_DD) := some ((rw_at (D 18) 24 ((2 * a1) + a2)), D)
set_option maxHeartbeats 2000000 in
theorem ev_42 {a1 a2 : Int32} {D : am_DD} {y : Int32} {Z : am_DD} (h : fn_42 a1 a2 D = some (y, Z)) : ay_mo 42 [.ref 8, .int a1, .int a2] D (.inl (some (.int y))) Z := by
  unfold fn_42 at h
  refine ay_m_of (L := [some (.ref 8), some (.int a1), some (.int a2)]) rfl ?_
  refine ay_t_loc (pc := 0) fe_42_0 rfl ?_
  refine ay_t_getR (pc := 1) (w := .ref 17) fe_42_1 at_8 (by decide +kernel) rfl ?_
  refine ay_t_stk (pc := 4) (S' := [.int 2, .ref 17]) fe_42_4 rfl ?_
  refine ay_t_loc (pc := 5) fe_42_5 rfl ?_
  refine ay_t_stk (pc := 6) (S' := [.int (2 * a1), .ref 17]) fe_42_6 rfl ?_
  refine ay_t_loc (pc := 7) fe_42_7 rfl ?_
  refine ay_t_stk (pc := 8) (S' := [.int ((2 * a1) + a2), .ref 17]) fe_42_8 rfl ?_
  refine ay_t_call (pc := 9) (w := some (.int (rw_at (D 18) 24 ((2 * a1) + a2)))) fe_42_9 (ay_args [.ref 17, .int ((2 * a1) + a2)] [] rfl rfl (Nat.le_of_ble_eq_true rfl) (Nat.le_of_ble_eq_true rfl)) (ay_rcvV at_17 rfl) (mt_at at_17 at_18 (by decide)) ?_
  cases h
  exact ay_t_iret fe_42_12 rfl rfl
def fn_43_4 : Nat → Int32 → Int32 → Int32 → am_DD → Option (Int32 × am_DD)
  | 0, _, _, _, _ => none
  | n + 1, x1, x2, x3, D => (if (D 19 0) ≤ x3 then some (x2, D) else (if ¬ (rw_at (D 21) 40 x3) = x1 then fn_43_4 n x1 (x2 + 0) (x3 + 1) D else fn_43_4 n x1 (x2 + 1) (x3 + 1) D))
set_option maxHeartbeats 2000000 in
theorem ev_43_4 : ∀ (n : Nat) (x1 x2 x3 : Int32) (D : am_DD) (y : Int32) (Z : am_DD), fn_43_4 n x1 x2 x3 D = some (y, Z) → ay_to 43 4 [some (.ref 19), some (.int x1), some (.int x2), some (.int x3)] [] D (.inl (some (.int y))) Z := by
  intro n
  induction n with
  | zero => intro x1 x2 x3 D y Z h; cases h
  | succ n ih =>
    intro x1 x2 x3 D y Z h
    rw [fn_43_4] at h
    refine ay_t_loc (pc := 4) fe_43_4 rfl ?_
    refine ay_t_loc (pc := 5) fe_43_5 rfl ?_
    refine ay_t_getI (pc := 6) fe_43_6 at_19 (by decide +kernel) rfl ?_
    by_cases hc1 : (D 19 0) ≤ x3
    · rw [if_pos hc1] at h
      refine ay_t_pos (pc := 9) hc1 fe_43_9 rfl ?_
      refine ay_t_loc (pc := 38) fe_43_38 rfl ?_
      cases h
      exact ay_t_iret fe_43_39 rfl rfl
    · rw [if_neg hc1] at h
      refine ay_t_neg (pc := 9) hc1 fe_43_9 rfl ?_
      refine ay_t_loc (pc := 12) fe_43_12 rfl ?_
      refine ay_t_loc (pc := 13) fe_43_13 rfl ?_
      refine ay_t_getR (pc := 14) (w := .ref 20) fe_43_14 at_19 (by decide +kernel) rfl ?_
      refine ay_t_loc (pc := 17) fe_43_17 rfl ?_
      refine ay_t_call (pc := 18) (w := some (.int (rw_at (D 21) 40 x3))) fe_43_18 (ay_args [.ref 20, .int x3] [.int x2] rfl rfl (Nat.le_of_ble_eq_true rfl) (Nat.le_of_ble_eq_true rfl)) (ay_rcvV at_20 rfl) (mt_at at_20 at_21 (by decide)) ?_
      refine ay_t_loc (pc := 21) fe_43_21 rfl ?_
      by_cases hc2 : ¬ (rw_at (D 21) 40 x3) = x1
      · rw [if_pos hc2] at h
        refine ay_t_pos (pc := 22) hc2 fe_43_22 rfl ?_
        refine ay_t_stk (pc := 29) (S' := [.int 0, .int x2]) fe_43_29 rfl ?_
        refine ay_t_stk (pc := 30) (S' := [.int (x2 + 0)]) fe_43_30 rfl ?_
        refine ay_t_loc (pc := 31) (L' := [some (.ref 19), some (.int x1), some (.int (x2 + 0)), some (.int x3)]) fe_43_31 rfl ?_
        refine ay_t_loc (pc := 32) (L' := [some (.ref 19), some (.int x1), some (.int (x2 + 0)), some (.int (x3 + 1))]) fe_43_32 rfl ?_
        refine ay_t_br (pc := 35) (pc' := 4) fe_43_35 rfl ?_
        exact ay_t_less (ay_ls (ay_ls (ay_ls (ay_ls ay_l0)))) (ih _ _ _ _ _ _ h)
      · rw [if_neg hc2] at h
        refine ay_t_neg (pc := 22) hc2 fe_43_22 rfl ?_
        refine ay_t_stk (pc := 25) (S' := [.int 1, .int x2]) fe_43_25 rfl ?_
        refine ay_t_br (pc := 26) (pc' := 30) fe_43_26 rfl ?_
        refine ay_t_stk (pc := 30) (S' := [.int (x2 + 1)]) fe_43_30 rfl ?_
        refine ay_t_loc (pc := 31) (L' := [some (.ref 19), some (.int x1), some (.int (x2 + 1)), some (.int x3)]) fe_43_31 rfl ?_
        refine ay_t_loc (pc := 32) (L' := [some (.ref 19), some (.int x1), some (.int (x2 + 1)), some (.int (x3 + 1))]) fe_43_32 rfl ?_
        refine ay_t_br (pc := 35) (pc' := 4) fe_43_35 rfl ?_
        exact ay_t_less (ay_ls (ay_ls (ay_ls (ay_ls ay_l0)))) (ih _ _ _ _ _ _ h)
