/-! methods as functions, with what am_run does (written by wip/whole/gen6.py) -/
def fn_203_4 : Nat → Int32 → Int32 → am_DD → Option (Int32 × am_DD)
  | 0, _, _, _ => none
  | n + 1, x1, x2, D => (if (D 322 10) ≤ x2 then some (x1, D) else (match fn_202 x2 D with | none => none | some (y2, D3) => (if y2 = 0 then fn_203_4 n (x1 + 0) (x2 + 1) D3 else fn_203_4 n (x1 + 1) (x2 + 1) D3)))
set_option maxHeartbeats 2000000 in
theorem ev_203_4 : ∀ (n : Nat) (x1 x2 : Int32) (D : am_DD) (y : Int32) (Z : am_DD), fn_203_4 n x1 x2 D = some (y, Z) → ay_to 203 4 [some (.ref 321), some (.int x1), some (.int x2)] [] D (.inl (some (.int y))) Z := by
  intro n
  induction n with
  | zero => intro x1 x2 D y Z h; cases h
  | succ n ih =>
    intro x1 x2 D y Z h
    rw [fn_203_4] at h
    refine ay_t_loc (pc := 4) fe_203_4 rfl ?_
    refine ay_t_loc (pc := 5) fe_203_5 rfl ?_
    refine ay_t_getR (pc := 6) (w := .ref 322) fe_203_6 at_321 (by decide +kernel) rfl ?_
    refine ay_t_stk (pc := 9) (S' := [.int 10, .ref 322, .int x2]) fe_203_9 rfl ?_
    refine ay_t_ialoadk (pc := 11) (k := 10) fe_203_11 at_322 (by decide) (by decide) (by decide) ?_
    by_cases hc1 : (D 322 10) ≤ x2
    · rw [if_pos hc1] at h
      refine ay_t_pos (pc := 12) hc1 fe_203_12 rfl ?_
      refine ay_t_loc (pc := 37) fe_203_37 rfl ?_
      cases h
      exact ay_t_iret fe_203_38 rfl rfl
    · rw [if_neg hc1] at h
      refine ay_t_neg (pc := 12) hc1 fe_203_12 rfl ?_
      refine ay_t_loc (pc := 15) fe_203_15 rfl ?_
      refine ay_t_loc (pc := 16) fe_203_16 rfl ?_
      refine ay_t_loc (pc := 17) fe_203_17 rfl ?_
      cases hk4 : fn_202 x2 D with
      | none => rw [hk4] at h; cases h
      | some z =>
        obtain ⟨y2, D3⟩ := z
        rw [hk4] at h
        dsimp only at h
        refine ay_t_call (pc := 18) (w := some (.int y2)) fe_203_18 (ay_args [.ref 321, .int x2] [.int x1] rfl rfl (Nat.le_of_ble_eq_true rfl) (Nat.le_of_ble_eq_true rfl)) (ay_rcvV at_321 rfl) (ev_202 hk4) ?_
        by_cases hc5 : y2 = 0
        · rw [if_pos hc5] at h
          refine ay_t_pos (pc := 21) hc5 fe_203_21 rfl ?_
          refine ay_t_stk (pc := 28) (S' := [.int 0, .int x1]) fe_203_28 rfl ?_
          refine ay_t_stk (pc := 29) (S' := [.int (x1 + 0)]) fe_203_29 rfl ?_
          refine ay_t_loc (pc := 30) (L' := [some (.ref 321), some (.int (x1 + 0)), some (.int x2)]) fe_203_30 rfl ?_
          refine ay_t_loc (pc := 31) (L' := [some (.ref 321), some (.int (x1 + 0)), some (.int (x2 + 1))]) fe_203_31 rfl ?_
          refine ay_t_br (pc := 34) (pc' := 4) fe_203_34 rfl ?_
          exact ay_t_less (ay_ls (ay_ls (ay_ls ay_l0))) (ih _ _ _ _ _ h)
        · rw [if_neg hc5] at h
          refine ay_t_neg (pc := 21) hc5 fe_203_21 rfl ?_
          refine ay_t_stk (pc := 24) (S' := [.int 1, .int x1]) fe_203_24 rfl ?_
          refine ay_t_br (pc := 25) (pc' := 29) fe_203_25 rfl ?_
          refine ay_t_stk (pc := 29) (S' := [.int (x1 + 1)]) fe_203_29 rfl ?_
          refine ay_t_loc (pc := 30) (L' := [some (.ref 321), some (.int (x1 + 1)), some (.int x2)]) fe_203_30 rfl ?_
          refine ay_t_loc (pc := 31) (L' := [some (.ref 321), some (.int (x1 + 1)), some (.int (x2 + 1))]) fe_203_31 rfl ?_
          refine ay_t_br (pc := 34) (pc' := 4) fe_203_34 rfl ?_
          exact ay_t_less (ay_ls (ay_ls (ay_ls ay_l0))) (ih _ _ _ _ _ h)
def fn_203 (D : am_DD) : Option (Int32 × am_DD) := fn_203_4 am_F 0 0 D
set_option maxHeartbeats 2000000 in
theorem ev_203 {D : am_DD} {y : Int32} {Z : am_DD} (h : fn_203  D = some (y, Z)) : ay_mo 203 [.ref 321] D (.inl (some (.int y))) Z := by
  unfold fn_203 at h
  refine ay_m_of (L := [some (.ref 321), none, none]) rfl ?_
  refine ay_t_stk (pc := 0) (S' := [.int 0]) fe_203_0 rfl ?_
  refine ay_t_loc (pc := 1) (L' := [some (.ref 321), some (.int 0), none]) fe_203_1 rfl ?_
  refine ay_t_stk (pc := 2) (S' := [.int 0]) fe_203_2 rfl ?_
  refine ay_t_loc (pc := 3) (L' := [some (.ref 321), some (.int 0), some (.int 0)]) fe_203_3 rfl ?_
  exact ay_t_less (ay_ls (ay_ls (ay_ls ay_l0))) (ev_203_4 _ _ _ _ _ _ h)
def fn_205_4 : Nat → Int32 → Int32 → Int32 → am_DD → Option (Int32 × am_DD)
  | 0, _, _, _, _ => none
  | n + 1, x1, x2, x3, D => (if (D 322 10) ≤ x3 then some (x2, D) else (match fn_180 x3 2 D with | none => none | some (y2, D3) => (match fn_180 (x3 - 1) 2 D3 with | none => none | some (y5, D6) => (if x1 = 0 then (if 0 ≤ (y2 - y5) then fn_205_4 n x1 (x2 + 0) (x3 + 1) D6 else fn_205_4 n x1 (x2 + 1) (x3 + 1) D6) else (if (y2 - y5) ≤ 0 then fn_205_4 n x1 (x2 + 0) (x3 + 1) D6 else fn_205_4 n x1 (x2 + 1) (x3 + 1) D6)))))
set_option maxHeartbeats 2000000 in
theorem ev_205_4 : ∀ (n : Nat) (x1 x2 x3 : Int32) (D : am_DD) (y : Int32) (Z : am_DD), fn_205_4 n x1 x2 x3 D = some (y, Z) → ay_to 205 4 [some (.ref 321), some (.int x1), some (.int x2), some (.int x3), none] [] D (.inl (some (.int y))) Z := by
  intro n
  induction n with
  | zero => intro x1 x2 x3 D y Z h; cases h
  | succ n ih =>
    intro x1 x2 x3 D y Z h
    rw [fn_205_4] at h
    refine ay_t_loc (pc := 4) fe_205_4 rfl ?_
    refine ay_t_loc (pc := 5) fe_205_5 rfl ?_
    refine ay_t_getR (pc := 6) (w := .ref 322) fe_205_6 at_321 (by decide +kernel) rfl ?_
    refine ay_t_stk (pc := 9) (S' := [.int 10, .ref 322, .int x3]) fe_205_9 rfl ?_
    refine ay_t_ialoadk (pc := 11) (k := 10) fe_205_11 at_322 (by decide) (by decide) (by decide) ?_
    by_cases hc1 : (D 322 10) ≤ x3
    · rw [if_pos hc1] at h
      refine ay_t_pos (pc := 12) hc1 fe_205_12 rfl ?_
      refine ay_t_loc (pc := 63) fe_205_63 rfl ?_
      cases h
      exact ay_t_iret fe_205_64 rfl rfl
    · rw [if_neg hc1] at h
      refine ay_t_neg (pc := 12) hc1 fe_205_12 rfl ?_
      refine ay_t_loc (pc := 15) fe_205_15 rfl ?_
      refine ay_t_loc (pc := 16) fe_205_16 rfl ?_
      refine ay_t_stk (pc := 17) (S' := [.int 2, .int x3, .ref 321]) fe_205_17 rfl ?_
      cases hk4 : fn_180 x3 2 D with
      | none => rw [hk4] at h; cases h
      | some z =>
        obtain ⟨y2, D3⟩ := z
        rw [hk4] at h
        dsimp only at h
        refine ay_t_call (pc := 18) (w := some (.int y2)) fe_205_18 (ay_args [.ref 321, .int x3, .int 2] [] rfl rfl (Nat.le_of_ble_eq_true rfl) (Nat.le_of_ble_eq_true rfl)) (ay_rcvV at_321 rfl) (ev_180 hk4) ?_
        refine ay_t_loc (pc := 21) fe_205_21 rfl ?_
        refine ay_t_loc (pc := 22) fe_205_22 rfl ?_
        refine ay_t_stk (pc := 23) (S' := [.int 1, .int x3, .ref 321, .int y2]) fe_205_23 rfl ?_
        refine ay_t_stk (pc := 24) (S' := [.int (x3 - 1), .ref 321, .int y2]) fe_205_24 rfl ?_
        refine ay_t_stk (pc := 25) (S' := [.int 2, .int (x3 - 1), .ref 321, .int y2]) fe_205_25 rfl ?_
        cases hk7 : fn_180 (x3 - 1) 2 D3 with
        | none => rw [hk7] at h; cases h
        | some z =>
          obtain ⟨y5, D6⟩ := z
          rw [hk7] at h
          dsimp only at h
          refine ay_t_call (pc := 26) (w := some (.int y5)) fe_205_26 (ay_args [.ref 321, .int (x3 - 1), .int 2] [.int y2] rfl rfl (Nat.le_of_ble_eq_true rfl) (Nat.le_of_ble_eq_true rfl)) (ay_rcvV at_321 rfl) (ev_180 hk7) ?_
          refine ay_t_stk (pc := 29) (S' := [.int (y2 - y5)]) fe_205_29 rfl ?_
          refine ay_t_loc (pc := 30) (L' := [some (.ref 321), some (.int x1), some (.int x2), some (.int x3), some (.int (y2 - y5))]) fe_205_30 rfl ?_
          refine ay_t_loc (pc := 32) fe_205_32 rfl ?_
          refine ay_t_loc (pc := 33) fe_205_33 rfl ?_
          by_cases hc8 : x1 = 0
          · rw [if_pos hc8] at h
            refine ay_t_pos (pc := 34) hc8 fe_205_34 rfl ?_
            refine ay_t_loc (pc := 45) fe_205_45 rfl ?_
            by_cases hc9 : 0 ≤ (y2 - y5)
            · rw [if_pos hc9] at h
              refine ay_t_pos (pc := 47) hc9 fe_205_47 rfl ?_
              refine ay_t_stk (pc := 54) (S' := [.int 0, .int x2]) fe_205_54 rfl ?_
              refine ay_t_stk (pc := 55) (S' := [.int (x2 + 0)]) fe_205_55 rfl ?_
              refine ay_t_loc (pc := 56) (L' := [some (.ref 321), some (.int x1), some (.int (x2 + 0)), some (.int x3), some (.int (y2 - y5))]) fe_205_56 rfl ?_
              refine ay_t_loc (pc := 57) (L' := [some (.ref 321), some (.int x1), some (.int (x2 + 0)), some (.int (x3 + 1)), some (.int (y2 - y5))]) fe_205_57 rfl ?_
              refine ay_t_br (pc := 60) (pc' := 4) fe_205_60 rfl ?_
              exact ay_t_less (ay_ls (ay_ls (ay_ls (ay_ls (ay_ln ay_l0))))) (ih _ _ _ _ _ _ h)
            · rw [if_neg hc9] at h
              refine ay_t_neg (pc := 47) hc9 fe_205_47 rfl ?_
              refine ay_t_stk (pc := 50) (S' := [.int 1, .int x2]) fe_205_50 rfl ?_
              refine ay_t_br (pc := 51) (pc' := 55) fe_205_51 rfl ?_
              refine ay_t_stk (pc := 55) (S' := [.int (x2 + 1)]) fe_205_55 rfl ?_
              refine ay_t_loc (pc := 56) (L' := [some (.ref 321), some (.int x1), some (.int (x2 + 1)), some (.int x3), some (.int (y2 - y5))]) fe_205_56 rfl ?_
              refine ay_t_loc (pc := 57) (L' := [some (.ref 321), some (.int x1), some (.int (x2 + 1)), some (.int (x3 + 1)), some (.int (y2 - y5))]) fe_205_57 rfl ?_
              refine ay_t_br (pc := 60) (pc' := 4) fe_205_60 rfl ?_
              exact ay_t_less (ay_ls (ay_ls (ay_ls (ay_ls (ay_ln ay_l0))))) (ih _ _ _ _ _ _ h)
          · rw [if_neg hc8] at h
            refine ay_t_neg (pc := 34) hc8 fe_205_34 rfl ?_
            refine ay_t_loc (pc := 37) fe_205_37 rfl ?_
            by_cases hc10 : (y2 - y5) ≤ 0
            · rw [if_pos hc10] at h
              refine ay_t_pos (pc := 39) hc10 fe_205_39 rfl ?_
              refine ay_t_stk (pc := 54) (S' := [.int 0, .int x2]) fe_205_54 rfl ?_
              refine ay_t_stk (pc := 55) (S' := [.int (x2 + 0)]) fe_205_55 rfl ?_
              refine ay_t_loc (pc := 56) (L' := [some (.ref 321), some (.int x1), some (.int (x2 + 0)), some (.int x3), some (.int (y2 - y5))]) fe_205_56 rfl ?_
              refine ay_t_loc (pc := 57) (L' := [some (.ref 321), some (.int x1), some (.int (x2 + 0)), some (.int (x3 + 1)), some (.int (y2 - y5))]) fe_205_57 rfl ?_
              refine ay_t_br (pc := 60) (pc' := 4) fe_205_60 rfl ?_
              exact ay_t_less (ay_ls (ay_ls (ay_ls (ay_ls (ay_ln ay_l0))))) (ih _ _ _ _ _ _ h)
            · rw [if_neg hc10] at h
              refine ay_t_neg (pc := 39) hc10 fe_205_39 rfl ?_
              refine ay_t_br (pc := 42) (pc' := 50) fe_205_42 rfl ?_
              refine ay_t_stk (pc := 50) (S' := [.int 1, .int x2]) fe_205_50 rfl ?_
              refine ay_t_br (pc := 51) (pc' := 55) fe_205_51 rfl ?_
              refine ay_t_stk (pc := 55) (S' := [.int (x2 + 1)]) fe_205_55 rfl ?_
              refine ay_t_loc (pc := 56) (L' := [some (.ref 321), some (.int x1), some (.int (x2 + 1)), some (.int x3), some (.int (y2 - y5))]) fe_205_56 rfl ?_
              refine ay_t_loc (pc := 57) (L' := [some (.ref 321), some (.int x1), some (.int (x2 + 1)), some (.int (x3 + 1)), some (.int (y2 - y5))]) fe_205_57 rfl ?_
              refine ay_t_br (pc := 60) (pc' := 4) fe_205_60 rfl ?_
              exact ay_t_less (ay_ls (ay_ls (ay_ls (ay_ls (ay_ln ay_l0))))) (ih _ _ _ _ _ _ h)
def fn_205 (a1 : Int32) (D : am_DD) : Option (Int32 × am_DD) := fn_205_4 am_F a1 0 1 D
set_option maxHeartbeats 2000000 in
theorem ev_205 {a1 : Int32} {D : am_DD} {y : Int32} {Z : am_DD} (h : fn_205 a1 D = some (y, Z)) : ay_mo 205 [.ref 321, .int a1] D (.inl (some (.int y))) Z := by
  unfold fn_205 at h
  refine ay_m_of (L := [some (.ref 321), some (.int a1), none, none, none]) rfl ?_
  refine ay_t_stk (pc := 0) (S' := [.int 0]) fe_205_0 rfl ?_
  refine ay_t_loc (pc := 1) (L' := [some (.ref 321), some (.int a1), some (.int 0), none, none]) fe_205_1 rfl ?_
  refine ay_t_stk (pc := 2) (S' := [.int 1]) fe_205_2 rfl ?_
  refine ay_t_loc (pc := 3) (L' := [some (.ref 321), some (.int a1), some (.int 0), some (.int 1), none]) fe_205_3 rfl ?_
  exact ay_t_less (ay_ls (ay_ls (ay_ls (ay_ls (ay_ls ay_l0))))) (ev_205_4 _ _ _ _ _ _ _ h)
def fn_206 (a1 : Int32) (D : am_DD) : Option (Int32 × am_DD) := (match fn_26 a1 0 6 D with | none => none | some (y1, D2) => (if y1 = 0 then (match fn_29 1 D2 with | none => none | some (y5, D6) => (if ¬ y5 = 0 then (if a1 = 0 then some ((D6 322 10), D6) else (if a1 = 1 then (match fn_200 D6 with | none => none | some (y11, D12) => some (y11, D12)) else (if a1 = 2 then (match fn_201 D6 with | none => none | some (y15, D16) => some (y15, D16)) else (if a1 = 3 then (match fn_203 D6 with | none => none | some (y19, D20) => some (y19, D20)) else (if a1 = 4 then (match fn_204 D6 with | none => none | some (y23, D24) => some (y23, D24)) else (if ¬ a1 = 5 then (match fn_205 0 D6 with | none => none | some (y27, D28) => some (y27, D28)) else (match fn_205 1 D6 with | none => none | some (y30, D31) => some (y30, D31)))))))) else some (0, D6))) else (match fn_29 0 D2 with | none => none | some (y33, D34) => (if ¬ y33 = 0 then (if a1 = 0 then some ((D34 322 10), D34) else (if a1 = 1 then (match fn_200 D34 with | none => none | some (y39, D40) => some (y39, D40)) else (if a1 = 2 then (match fn_201 D34 with | none => none | some (y43, D44) => some (y43, D44)) else (if a1 = 3 then (match fn_203 D34 with | none => none | some (y47, D48) => some (y47, D48)) else (if a1 = 4 then (match fn_204 D34 with | none => none | some (y51, D52) => some (y51, D52)) else (if ¬ a1 = 5 then (match fn_205 0 D34 with | none => none | some (y55, D56) => some (y55, D56)) else (match fn_205 1 D34 with | none => none | some (y58, D59) => some (y58, D59)))))))) else some (0, D34)))))
set_option maxHeartbeats 2000000 in
theorem ev_206 {a1 : Int32} {D : am_DD} {y : Int32} {Z : am_DD} (h : fn_206 a1 D = some (y, Z)) : ay_mo 206 [.ref 321, .int a1] D (.inl (some (.int y))) Z := by
  unfold fn_206 at h
  refine ay_m_of (L := [some (.ref 321), some (.int a1)]) rfl ?_
  refine ay_t_loc (pc := 0) fe_206_0 rfl ?_
  refine ay_t_loc (pc := 1) fe_206_1 rfl ?_
  refine ay_t_stk (pc := 2) (S' := [.int 0, .int a1, .ref 321]) fe_206_2 rfl ?_
  refine ay_t_stk (pc := 3) (S' := [.int 6, .int 0, .int a1, .ref 321]) fe_206_3 rfl ?_
  cases hk3 : fn_26 a1 0 6 D with
  | none => rw [hk3] at h; cases h
  | some z =>
    obtain ⟨y1, D2⟩ := z
    rw [hk3] at h
    dsimp only at h
    refine ay_t_call (pc := 5) (w := some (.int y1)) fe_206_5 (ay_args [.int a1, .int 0, .int 6] [.ref 321] rfl rfl (Nat.le_of_ble_eq_true rfl) (Nat.le_of_ble_eq_true rfl)) rfl (ev_26 hk3) ?_
    by_cases hc4 : y1 = 0
    · rw [if_pos hc4] at h
      refine ay_t_pos (pc := 8) hc4 fe_206_8 rfl ?_
      refine ay_t_stk (pc := 15) (S' := [.int 1, .ref 321]) fe_206_15 rfl ?_
      cases hk7 : fn_29 1 D2 with
      | none => rw [hk7] at h; cases h
      | some z =>
        obtain ⟨y5, D6⟩ := z
        rw [hk7] at h
        dsimp only at h
        refine ay_t_call (pc := 16) (w := some (.int y5)) fe_206_16 (ay_args [.ref 321, .int 1] [] rfl rfl (Nat.le_of_ble_eq_true rfl) (Nat.le_of_ble_eq_true rfl)) (ay_rcvV at_321 rfl) (ev_29 hk7) ?_
        by_cases hc8 : ¬ y5 = 0
        · rw [if_pos hc8] at h
          refine ay_t_pos (pc := 19) hc8 fe_206_19 rfl ?_
          refine ay_t_loc (pc := 24) fe_206_24 rfl ?_
          by_cases hc9 : a1 = 0
          · rw [if_pos hc9] at h
            refine ay_t_br (pc := 25) (pc' := 60) (S' := []) fe_206_25 (by rw [hc9]; rfl) ?_
            refine ay_t_loc (pc := 60) fe_206_60 rfl ?_
            refine ay_t_getR (pc := 61) (w := .ref 322) fe_206_61 at_321 (by decide +kernel) rfl ?_
            refine ay_t_stk (pc := 64) (S' := [.int 10, .ref 322]) fe_206_64 rfl ?_
            refine ay_t_ialoadk (pc := 66) (k := 10) fe_206_66 at_322 (by decide) (by decide) (by decide) ?_
            cases h
            exact ay_t_iret fe_206_67 rfl rfl
          · rw [if_neg hc9] at h
            by_cases hc10 : a1 = 1
            · rw [if_pos hc10] at h
              refine ay_t_br (pc := 25) (pc' := 68) (S' := []) fe_206_25 (by rw [hc10]; rfl) ?_
              refine ay_t_loc (pc := 68) fe_206_68 rfl ?_
              cases hk13 : fn_200 D6 with
              | none => rw [hk13] at h; cases h
              | some z =>
                obtain ⟨y11, D12⟩ := z
                rw [hk13] at h
                dsimp only at h
                refine ay_t_call (pc := 69) (w := some (.int y11)) fe_206_69 (ay_args [.ref 321] [] rfl rfl (Nat.le_of_ble_eq_true rfl) (Nat.le_of_ble_eq_true rfl)) (ay_rcvV at_321 rfl) (ev_200 hk13) ?_
                cases h
                exact ay_t_iret fe_206_72 rfl rfl
            · rw [if_neg hc10] at h
              by_cases hc14 : a1 = 2
              · rw [if_pos hc14] at h
                refine ay_t_br (pc := 25) (pc' := 73) (S' := []) fe_206_25 (by rw [hc14]; rfl) ?_
                refine ay_t_loc (pc := 73) fe_206_73 rfl ?_
                cases hk17 : fn_201 D6 with
                | none => rw [hk17] at h; cases h
                | some z =>
                  obtain ⟨y15, D16⟩ := z
                  rw [hk17] at h
                  dsimp only at h
                  refine ay_t_call (pc := 74) (w := some (.int y15)) fe_206_74 (ay_args [.ref 321] [] rfl rfl (Nat.le_of_ble_eq_true rfl) (Nat.le_of_ble_eq_true rfl)) (ay_rcvV at_321 rfl) (ev_201 hk17) ?_
                  cases h
                  exact ay_t_iret fe_206_77 rfl rfl
              · rw [if_neg hc14] at h
                by_cases hc18 : a1 = 3
                · rw [if_pos hc18] at h
                  refine ay_t_br (pc := 25) (pc' := 78) (S' := []) fe_206_25 (by rw [hc18]; rfl) ?_
                  refine ay_t_loc (pc := 78) fe_206_78 rfl ?_
                  cases hk21 : fn_203 D6 with
                  | none => rw [hk21] at h; cases h
                  | some z =>
                    obtain ⟨y19, D20⟩ := z
                    rw [hk21] at h
                    dsimp only at h
                    refine ay_t_call (pc := 79) (w := some (.int y19)) fe_206_79 (ay_args [.ref 321] [] rfl rfl (Nat.le_of_ble_eq_true rfl) (Nat.le_of_ble_eq_true rfl)) (ay_rcvV at_321 rfl) (ev_203 hk21) ?_
                    cases h
                    exact ay_t_iret fe_206_82 rfl rfl
                · rw [if_neg hc18] at h
                  by_cases hc22 : a1 = 4
                  · rw [if_pos hc22] at h
                    refine ay_t_br (pc := 25) (pc' := 83) (S' := []) fe_206_25 (by rw [hc22]; rfl) ?_
                    refine ay_t_loc (pc := 83) fe_206_83 rfl ?_
                    cases hk25 : fn_204 D6 with
                    | none => rw [hk25] at h; cases h
                    | some z =>
                      obtain ⟨y23, D24⟩ := z
                      rw [hk25] at h
                      dsimp only at h
                      refine ay_t_call (pc := 84) (w := some (.int y23)) fe_206_84 (ay_args [.ref 321] [] rfl rfl (Nat.le_of_ble_eq_true rfl) (Nat.le_of_ble_eq_true rfl)) (ay_rcvV at_321 rfl) (ev_204 hk25) ?_
                      cases h
                      exact ay_t_iret fe_206_87 rfl rfl
                  · rw [if_neg hc22] at h
                    refine ay_t_br (pc := 25) (pc' := 88) fe_206_25 (ay_tab_def (by have z0 := ay_ne_toInt (c := 0) hc9 (by decide); have z1 := ay_ne_toInt (c := 1) hc10 (by decide); have z2 := ay_ne_toInt (c := 2) hc14 (by decide); have z3 := ay_ne_toInt (c := 3) hc18 (by decide); have z4 := ay_ne_toInt (c := 4) hc22 (by decide); omega) rfl) ?_
                    refine ay_t_loc (pc := 88) fe_206_88 rfl ?_
                    refine ay_t_loc (pc := 89) fe_206_89 rfl ?_
                    refine ay_t_stk (pc := 90) (S' := [.int 5, .int a1, .ref 321]) fe_206_90 rfl ?_
                    by_cases hc26 : ¬ a1 = 5
                    · rw [if_pos hc26] at h
                      refine ay_t_pos (pc := 91) hc26 fe_206_91 rfl ?_
                      refine ay_t_stk (pc := 98) (S' := [.int 0, .ref 321]) fe_206_98 rfl ?_
                      cases hk29 : fn_205 0 D6 with
                      | none => rw [hk29] at h; cases h
                      | some z =>
                        obtain ⟨y27, D28⟩ := z
                        rw [hk29] at h
                        dsimp only at h
                        refine ay_t_call (pc := 99) (w := some (.int y27)) fe_206_99 (ay_args [.ref 321, .int 0] [] rfl rfl (Nat.le_of_ble_eq_true rfl) (Nat.le_of_ble_eq_true rfl)) (ay_rcvV at_321 rfl) (ev_205 hk29) ?_
                        cases h
                        exact ay_t_iret fe_206_102 rfl rfl
                    · rw [if_neg hc26] at h
                      refine ay_t_neg (pc := 91) hc26 fe_206_91 rfl ?_
                      refine ay_t_stk (pc := 94) (S' := [.int 1, .ref 321]) fe_206_94 rfl ?_
                      refine ay_t_br (pc := 95) (pc' := 99) fe_206_95 rfl ?_
                      cases hk32 : fn_205 1 D6 with
                      | none => rw [hk32] at h; cases h
                      | some z =>
                        obtain ⟨y30, D31⟩ := z
                        rw [hk32] at h
                        dsimp only at h
                        refine ay_t_call (pc := 99) (w := some (.int y30)) fe_206_99 (ay_args [.ref 321, .int 1] [] rfl rfl (Nat.le_of_ble_eq_true rfl) (Nat.le_of_ble_eq_true rfl)) (ay_rcvV at_321 rfl) (ev_205 hk32) ?_
                        cases h
                        exact ay_t_iret fe_206_102 rfl rfl
        · rw [if_neg hc8] at h
          refine ay_t_neg (pc := 19) hc8 fe_206_19 rfl ?_
          refine ay_t_stk (pc := 22) (S' := [.int 0]) fe_206_22 rfl ?_
          cases h
          exact ay_t_iret fe_206_23 rfl rfl
    · rw [if_neg hc4] at h
      refine ay_t_neg (pc := 8) hc4 fe_206_8 rfl ?_
      refine ay_t_stk (pc := 11) (S' := [.int 0, .ref 321]) fe_206_11 rfl ?_
      refine ay_t_br (pc := 12) (pc' := 16) fe_206_12 rfl ?_
      cases hk35 : fn_29 0 D2 with
      | none => rw [hk35] at h; cases h
      | some z =>
        obtain ⟨y33, D34⟩ := z
        rw [hk35] at h
        dsimp only at h
        refine ay_t_call (pc := 16) (w := some (.int y33)) fe_206_16 (ay_args [.ref 321, .int 0] [] rfl rfl (Nat.le_of_ble_eq_true rfl) (Nat.le_of_ble_eq_true rfl)) (ay_rcvV at_321 rfl) (ev_29 hk35) ?_
        by_cases hc36 : ¬ y33 = 0
        · rw [if_pos hc36] at h
          refine ay_t_pos (pc := 19) hc36 fe_206_19 rfl ?_
          refine ay_t_loc (pc := 24) fe_206_24 rfl ?_
          by_cases hc37 : a1 = 0
          · rw [if_pos hc37] at h
            refine ay_t_br (pc := 25) (pc' := 60) (S' := []) fe_206_25 (by rw [hc37]; rfl) ?_
            refine ay_t_loc (pc := 60) fe_206_60 rfl ?_
            refine ay_t_getR (pc := 61) (w := .ref 322) fe_206_61 at_321 (by decide +kernel) rfl ?_
            refine ay_t_stk (pc := 64) (S' := [.int 10, .ref 322]) fe_206_64 rfl ?_
            refine ay_t_ialoadk (pc := 66) (k := 10) fe_206_66 at_322 (by decide) (by decide) (by decide) ?_
            cases h
            exact ay_t_iret fe_206_67 rfl rfl
          · rw [if_neg hc37] at h
            by_cases hc38 : a1 = 1
            · rw [if_pos hc38] at h
              refine ay_t_br (pc := 25) (pc' := 68) (S' := []) fe_206_25 (by rw [hc38]; rfl) ?_
              refine ay_t_loc (pc := 68) fe_206_68 rfl ?_
              cases hk41 : fn_200 D34 with
              | none => rw [hk41] at h; cases h
              | some z =>
                obtain ⟨y39, D40⟩ := z
                rw [hk41] at h
                dsimp only at h
                refine ay_t_call (pc := 69) (w := some (.int y39)) fe_206_69 (ay_args [.ref 321] [] rfl rfl (Nat.le_of_ble_eq_true rfl) (Nat.le_of_ble_eq_true rfl)) (ay_rcvV at_321 rfl) (ev_200 hk41) ?_
                cases h
                exact ay_t_iret fe_206_72 rfl rfl
            · rw [if_neg hc38] at h
              by_cases hc42 : a1 = 2
              · rw [if_pos hc42] at h
                refine ay_t_br (pc := 25) (pc' := 73) (S' := []) fe_206_25 (by rw [hc42]; rfl) ?_
                refine ay_t_loc (pc := 73) fe_206_73 rfl ?_
                cases hk45 : fn_201 D34 with
                | none => rw [hk45] at h; cases h
                | some z =>
                  obtain ⟨y43, D44⟩ := z
                  rw [hk45] at h
                  dsimp only at h
                  refine ay_t_call (pc := 74) (w := some (.int y43)) fe_206_74 (ay_args [.ref 321] [] rfl rfl (Nat.le_of_ble_eq_true rfl) (Nat.le_of_ble_eq_true rfl)) (ay_rcvV at_321 rfl) (ev_201 hk45) ?_
                  cases h
                  exact ay_t_iret fe_206_77 rfl rfl
              · rw [if_neg hc42] at h
                by_cases hc46 : a1 = 3
                · rw [if_pos hc46] at h
                  refine ay_t_br (pc := 25) (pc' := 78) (S' := []) fe_206_25 (by rw [hc46]; rfl) ?_
                  refine ay_t_loc (pc := 78) fe_206_78 rfl ?_
                  cases hk49 : fn_203 D34 with
                  | none => rw [hk49] at h; cases h
                  | some z =>
                    obtain ⟨y47, D48⟩ := z
                    rw [hk49] at h
                    dsimp only at h
                    refine ay_t_call (pc := 79) (w := some (.int y47)) fe_206_79 (ay_args [.ref 321] [] rfl rfl (Nat.le_of_ble_eq_true rfl) (Nat.le_of_ble_eq_true rfl)) (ay_rcvV at_321 rfl) (ev_203 hk49) ?_
                    cases h
                    exact ay_t_iret fe_206_82 rfl rfl
                · rw [if_neg hc46] at h
                  by_cases hc50 : a1 = 4
                  · rw [if_pos hc50] at h
                    refine ay_t_br (pc := 25) (pc' := 83) (S' := []) fe_206_25 (by rw [hc50]; rfl) ?_
                    refine ay_t_loc (pc := 83) fe_206_83 rfl ?_
                    cases hk53 : fn_204 D34 with
                    | none => rw [hk53] at h; cases h
                    | some z =>
                      obtain ⟨y51, D52⟩ := z
                      rw [hk53] at h
                      dsimp only at h
                      refine ay_t_call (pc := 84) (w := some (.int y51)) fe_206_84 (ay_args [.ref 321] [] rfl rfl (Nat.le_of_ble_eq_true rfl) (Nat.le_of_ble_eq_true rfl)) (ay_rcvV at_321 rfl) (ev_204 hk53) ?_
                      cases h
                      exact ay_t_iret fe_206_87 rfl rfl
                  · rw [if_neg hc50] at h
                    refine ay_t_br (pc := 25) (pc' := 88) fe_206_25 (ay_tab_def (by have z0 := ay_ne_toInt (c := 0) hc37 (by decide); have z1 := ay_ne_toInt (c := 1) hc38 (by decide); have z2 := ay_ne_toInt (c := 2) hc42 (by decide); have z3 := ay_ne_toInt (c := 3) hc46 (by decide); have z4 := ay_ne_toInt (c := 4) hc50 (by decide); omega) rfl) ?_
                    refine ay_t_loc (pc := 88) fe_206_88 rfl ?_
                    refine ay_t_loc (pc := 89) fe_206_89 rfl ?_
                    refine ay_t_stk (pc := 90) (S' := [.int 5, .int a1, .ref 321]) fe_206_90 rfl ?_
                    by_cases hc54 : ¬ a1 = 5
                    · rw [if_pos hc54] at h
                      refine ay_t_pos (pc := 91) hc54 fe_206_91 rfl ?_
                      refine ay_t_stk (pc := 98) (S' := [.int 0, .ref 321]) fe_206_98 rfl ?_
                      cases hk57 : fn_205 0 D34 with
                      | none => rw [hk57] at h; cases h
                      | some z =>
                        obtain ⟨y55, D56⟩ := z
                        rw [hk57] at h
                        dsimp only at h
                        refine ay_t_call (pc := 99) (w := some (.int y55)) fe_206_99 (ay_args [.ref 321, .int 0] [] rfl rfl (Nat.le_of_ble_eq_true rfl) (Nat.le_of_ble_eq_true rfl)) (ay_rcvV at_321 rfl) (ev_205 hk57) ?_
                        cases h
                        exact ay_t_iret fe_206_102 rfl rfl
                    · rw [if_neg hc54] at h
                      refine ay_t_neg (pc := 91) hc54 fe_206_91 rfl ?_
                      refine ay_t_stk (pc := 94) (S' := [.int 1, .ref 321]) fe_206_94 rfl ?_
                      refine ay_t_br (pc := 95) (pc' := 99) fe_206_95 rfl ?_
                      cases hk60 : fn_205 1 D34 with
                      | none => rw [hk60] at h; cases h
                      | some z =>
                        obtain ⟨y58, D59⟩ := z
                        rw [hk60] at h
                        dsimp only at h
                        refine ay_t_call (pc := 99) (w := some (.int y58)) fe_206_99 (ay_args [.ref 321, .int 1] [] rfl rfl (Nat.le_of_ble_eq_true rfl) (Nat.le_of_ble_eq_true rfl)) (ay_rcvV at_321 rfl) (ev_205 hk60) ?_
                        cases h
                        exact ay_t_iret fe_206_102 rfl rfl
        · rw [if_neg hc36] at h
          refine ay_t_neg (pc := 19) hc36 fe_206_19 rfl ?_
          refine ay_t_stk (pc := 22) (S' := [.int 0]) fe_206_22 rfl ?_
          cases h
          exact ay_t_iret fe_206_23 rfl rfl
def fn_207_4 : Nat → Int32 → Int32 → am_DD → Option (Int32 × am_DD)
  | 0, _, _, _ => none
  | n + 1, x1, x2, D => (if (D 26 1) ≤ x2 then some (x1, D) else (match fn_177 x2 D with | none => none | some (y2, D3) => fn_207_4 n (x1 + y2) (x2 + 1) D3))
set_option maxHeartbeats 2000000 in
theorem ev_207_4 : ∀ (n : Nat) (x1 x2 : Int32) (D : am_DD) (y : Int32) (Z : am_DD), fn_207_4 n x1 x2 D = some (y, Z) → ay_to 207 4 [some (.ref 40), some (.int x1), some (.int x2)] [] D (.inl (some (.int y))) Z := by
  intro n
  induction n with
  | zero => intro x1 x2 D y Z h; cases h
  | succ n ih =>
    intro x1 x2 D y Z h
    rw [fn_207_4] at h
    refine ay_t_loc (pc := 4) fe_207_4 rfl ?_
    refine ay_t_loc (pc := 5) fe_207_5 rfl ?_
    refine ay_t_getR (pc := 6) (w := .ref 26) fe_207_6 at_40 (by decide +kernel) rfl ?_
    refine ay_t_getI (pc := 9) fe_207_9 at_26 (by decide +kernel) rfl ?_
    by_cases hc1 : (D 26 1) ≤ x2
    · rw [if_pos hc1] at h
      refine ay_t_pos (pc := 12) hc1 fe_207_12 rfl ?_
      refine ay_t_loc (pc := 32) fe_207_32 rfl ?_
      cases h
      exact ay_t_iret fe_207_33 rfl rfl
    · rw [if_neg hc1] at h
      refine ay_t_neg (pc := 12) hc1 fe_207_12 rfl ?_
      refine ay_t_loc (pc := 15) fe_207_15 rfl ?_
      refine ay_t_loc (pc := 16) fe_207_16 rfl ?_
      refine ay_t_getR (pc := 17) (w := .ref 26) fe_207_17 at_40 (by decide +kernel) rfl ?_
      refine ay_t_loc (pc := 20) fe_207_20 rfl ?_
      cases hk4 : fn_177 x2 D with
      | none => rw [hk4] at h; cases h
      | some z =>
        obtain ⟨y2, D3⟩ := z
        rw [hk4] at h
        dsimp only at h
        refine ay_t_call (pc := 21) (w := some (.int y2)) fe_207_21 (ay_args [.ref 26, .int x2] [.int x1] rfl rfl (Nat.le_of_ble_eq_true rfl) (Nat.le_of_ble_eq_true rfl)) (ay_rcvV at_26 rfl) (ev_177 hk4) ?_
        refine ay_t_stk (pc := 24) (S' := [.int (x1 + y2)]) fe_207_24 rfl ?_
        refine ay_t_loc (pc := 25) (L' := [some (.ref 40), some (.int (x1 + y2)), some (.int x2)]) fe_207_25 rfl ?_
        refine ay_t_loc (pc := 26) (L' := [some (.ref 40), some (.int (x1 + y2)), some (.int (x2 + 1))]) fe_207_26 rfl ?_
        refine ay_t_br (pc := 29) (pc' := 4) fe_207_29 rfl ?_
        exact ay_t_less (ay_ls (ay_ls (ay_ls ay_l0))) (ih _ _ _ _ _ h)
def fn_207 (D : am_DD) : Option (Int32 × am_DD) := fn_207_4 am_F 0 0 D
set_option maxHeartbeats 2000000 in
theorem ev_207 {D : am_DD} {y : Int32} {Z : am_DD} (h : fn_207  D = some (y, Z)) : ay_mo 207 [.ref 40] D (.inl (some (.int y))) Z := by
  unfold fn_207 at h
  refine ay_m_of (L := [some (.ref 40), none, none]) rfl ?_
  refine ay_t_stk (pc := 0) (S' := [.int 0]) fe_207_0 rfl ?_
  refine ay_t_loc (pc := 1) (L' := [some (.ref 40), some (.int 0), none]) fe_207_1 rfl ?_
  refine ay_t_stk (pc := 2) (S' := [.int 0]) fe_207_2 rfl ?_
  refine ay_t_loc (pc := 3) (L' := [some (.ref 40), some (.int 0), some (.int 0)]) fe_207_3 rfl ?_
  exact ay_t_less (ay_ls (ay_ls (ay_ls ay_l0))) (ev_207_4 _ _ _ _ _ _ h)
def fn_208 (D : am_DD) : Option (UInt32 × am_DD) := (if (D 26 1) ≤ 0 then some (FP.fconst0, D) else (match fn_207 D with | none => none | some (y2, D3) => (if (FP.fdiv (FP.i2f y2) (FP.i2f (D 26 1))) &&& 0x7fffffff ≤ 0x7f800000 then some ((FP.fdiv (FP.i2f y2) (FP.i2f (D 26 1))), D3) else none)))
set_option maxHeartbeats 2000000 in
theorem ev_208 {D : am_DD} {y : UInt32} {Z : am_DD} (h : fn_208  D = some (y, Z)) : ay_mo 208 [.ref 0] D (.inl (some (.float y))) Z := by
  unfold fn_208 at h
  refine ay_m_of (L := [some (.ref 0), none]) rfl ?_
  refine ay_t_loc (pc := 0) fe_208_0 rfl ?_
  refine ay_t_getR (pc := 1) (w := .ref 1) fe_208_1 at_0 (by decide +kernel) rfl ?_
  refine ay_t_getR (pc := 4) (w := .ref 26) fe_208_4 at_1 (by decide +kernel) rfl ?_
  refine ay_t_getI (pc := 7) fe_208_7 at_26 (by decide +kernel) rfl ?_
  refine ay_t_loc (pc := 10) (L' := [some (.ref 0), some (.int (D 26 1))]) fe_208_10 rfl ?_
  refine ay_t_loc (pc := 11) fe_208_11 rfl ?_
  by_cases hc1 : (D 26 1) ≤ 0
  · rw [if_pos hc1] at h
    refine ay_t_pos (pc := 12) hc1 fe_208_12 rfl ?_
    refine ay_t_stk (pc := 29) (S' := [.float FP.fconst0]) fe_208_29 rfl ?_
    cases h
    exact ay_t_fret fe_208_30 rfl
  · rw [if_neg hc1] at h
    refine ay_t_neg (pc := 12) hc1 fe_208_12 rfl ?_
    refine ay_t_loc (pc := 15) fe_208_15 rfl ?_
    refine ay_t_getR (pc := 16) (w := .ref 40) fe_208_16 at_0 (by decide +kernel) rfl ?_
    cases hk4 : fn_207 D with
    | none => rw [hk4] at h; cases h
    | some z =>
      obtain ⟨y2, D3⟩ := z
      rw [hk4] at h
      dsimp only at h
      refine ay_t_call (pc := 19) (w := some (.int y2)) fe_208_19 (ay_args [.ref 40] [] rfl rfl (Nat.le_of_ble_eq_true rfl) (Nat.le_of_ble_eq_true rfl)) (ay_rcvV at_40 rfl) (ev_207 hk4) ?_
      refine ay_t_stk (pc := 22) (S' := [.float (FP.i2f y2)]) fe_208_22 rfl ?_
      refine ay_t_loc (pc := 23) fe_208_23 rfl ?_
      refine ay_t_stk (pc := 24) (S' := [.float (FP.i2f (D 26 1)), .float (FP.i2f y2)]) fe_208_24 rfl ?_
      by_cases hf5 : (FP.fdiv (FP.i2f y2) (FP.i2f (D 26 1))) &&& 0x7fffffff ≤ 0x7f800000
      · rw [if_pos hf5] at h
        refine ay_t_stk (pc := 25) (S' := [.float (FP.fdiv (FP.i2f y2) (FP.i2f (D 26 1)))]) fe_208_25 (if_pos hf5) ?_
        refine ay_t_br (pc := 26) (pc' := 30) fe_208_26 rfl ?_
        cases h
        exact ay_t_fret fe_208_30 rfl
      · rw [if_neg hf5] at h; cases h
def fn_209_9 : Nat → Int32 → Int32 → am_DD → Option (UInt32 × am_DD)
  | 0, _, _, _ => none
  | n + 1, x1, x2, D => (if (D 322 10) ≤ x2 then (if ¬ (D 322 10) = 0 then (if (FP.fdiv (FP.i2f x1) (FP.i2f (D 322 10))) &&& 0x7fffffff ≤ 0x7f800000 then some ((FP.fdiv (FP.i2f x1) (FP.i2f (D 322 10))), D) else none) else some (FP.fconst0, D)) else (match fn_180 x2 2 D with | none => none | some (y4, D5) => fn_209_9 n (x1 + y4) (x2 + 1) D5))
set_option maxHeartbeats 2000000 in
theorem ev_209_9 : ∀ (n : Nat) (x1 x2 : Int32) (D : am_DD) (y : UInt32) (Z : am_DD), fn_209_9 n x1 x2 D = some (y, Z) → ay_to 209 9 [some (.ref 321), some (.int x1), some (.int x2)] [] D (.inl (some (.float y))) Z := by
  intro n
  induction n with
  | zero => intro x1 x2 D y Z h; cases h
  | succ n ih =>
    intro x1 x2 D y Z h
    rw [fn_209_9] at h
    refine ay_t_loc (pc := 9) fe_209_9 rfl ?_
    refine ay_t_loc (pc := 10) fe_209_10 rfl ?_
    refine ay_t_getR (pc := 11) (w := .ref 322) fe_209_11 at_321 (by decide +kernel) rfl ?_
    refine ay_t_stk (pc := 14) (S' := [.int 10, .ref 322, .int x2]) fe_209_14 rfl ?_
    refine ay_t_ialoadk (pc := 16) (k := 10) fe_209_16 at_322 (by decide) (by decide) (by decide) ?_
    by_cases hc1 : (D 322 10) ≤ x2
    · rw [if_pos hc1] at h
      refine ay_t_pos (pc := 17) hc1 fe_209_17 rfl ?_
      refine ay_t_loc (pc := 35) fe_209_35 rfl ?_
      refine ay_t_getR (pc := 36) (w := .ref 322) fe_209_36 at_321 (by decide +kernel) rfl ?_
      refine ay_t_stk (pc := 39) (S' := [.int 10, .ref 322]) fe_209_39 rfl ?_
      refine ay_t_ialoadk (pc := 41) (k := 10) fe_209_41 at_322 (by decide) (by decide) (by decide) ?_
      by_cases hc2 : ¬ (D 322 10) = 0
      · rw [if_pos hc2] at h
        refine ay_t_pos (pc := 42) hc2 fe_209_42 rfl ?_
        refine ay_t_loc (pc := 49) fe_209_49 rfl ?_
        refine ay_t_stk (pc := 50) (S' := [.float (FP.i2f x1)]) fe_209_50 rfl ?_
        refine ay_t_loc (pc := 51) fe_209_51 rfl ?_
        refine ay_t_getR (pc := 52) (w := .ref 322) fe_209_52 at_321 (by decide +kernel) rfl ?_
        refine ay_t_stk (pc := 55) (S' := [.int 10, .ref 322, .float (FP.i2f x1)]) fe_209_55 rfl ?_
        refine ay_t_ialoadk (pc := 57) (k := 10) fe_209_57 at_322 (by decide) (by decide) (by decide) ?_
        refine ay_t_stk (pc := 58) (S' := [.float (FP.i2f (D 322 10)), .float (FP.i2f x1)]) fe_209_58 rfl ?_
        by_cases hf3 : (FP.fdiv (FP.i2f x1) (FP.i2f (D 322 10))) &&& 0x7fffffff ≤ 0x7f800000
        · rw [if_pos hf3] at h
          refine ay_t_stk (pc := 59) (S' := [.float (FP.fdiv (FP.i2f x1) (FP.i2f (D 322 10)))]) fe_209_59 (if_pos hf3) ?_
          cases h
          exact ay_t_fret fe_209_60 rfl
        · rw [if_neg hf3] at h; cases h
      · rw [if_neg hc2] at h
        refine ay_t_neg (pc := 42) hc2 fe_209_42 rfl ?_
        refine ay_t_stk (pc := 45) (S' := [.float FP.fconst0]) fe_209_45 rfl ?_
        refine ay_t_br (pc := 46) (pc' := 60) fe_209_46 rfl ?_
        cases h
        exact ay_t_fret fe_209_60 rfl
    · rw [if_neg hc1] at h
      refine ay_t_neg (pc := 17) hc1 fe_209_17 rfl ?_
      refine ay_t_loc (pc := 20) fe_209_20 rfl ?_
      refine ay_t_loc (pc := 21) fe_209_21 rfl ?_
      refine ay_t_loc (pc := 22) fe_209_22 rfl ?_
      refine ay_t_stk (pc := 23) (S' := [.int 2, .int x2, .ref 321, .int x1]) fe_209_23 rfl ?_
      cases hk6 : fn_180 x2 2 D with
      | none => rw [hk6] at h; cases h
      | some z =>
        obtain ⟨y4, D5⟩ := z
        rw [hk6] at h
        dsimp only at h
        refine ay_t_call (pc := 24) (w := some (.int y4)) fe_209_24 (ay_args [.ref 321, .int x2, .int 2] [.int x1] rfl rfl (Nat.le_of_ble_eq_true rfl) (Nat.le_of_ble_eq_true rfl)) (ay_rcvV at_321 rfl) (ev_180 hk6) ?_
        refine ay_t_stk (pc := 27) (S' := [.int (x1 + y4)]) fe_209_27 rfl ?_
        refine ay_t_loc (pc := 28) (L' := [some (.ref 321), some (.int (x1 + y4)), some (.int x2)]) fe_209_28 rfl ?_
        refine ay_t_loc (pc := 29) (L' := [some (.ref 321), some (.int (x1 + y4)), some (.int (x2 + 1))]) fe_209_29 rfl ?_
        refine ay_t_br (pc := 32) (pc' := 9) fe_209_32 rfl ?_
        exact ay_t_less (ay_ls (ay_ls (ay_ls ay_l0))) (ih _ _ _ _ _ h)
def fn_209 (D : am_DD) : Option (UInt32 × am_DD) := fn_209_9 am_F 0 0 (am_upd D 321 7 0)
set_option maxHeartbeats 2000000 in
theorem ev_209 {D : am_DD} {y : UInt32} {Z : am_DD} (h : fn_209  D = some (y, Z)) : ay_mo 209 [.ref 321] D (.inl (some (.float y))) Z := by
  unfold fn_209 at h
  refine ay_m_of (L := [some (.ref 321), none, none]) rfl ?_
  refine ay_t_loc (pc := 0) fe_209_0 rfl ?_
  refine ay_t_stk (pc := 1) (S' := [.int 0, .ref 321]) fe_209_1 rfl ?_
  refine ay_t_put (pc := 2) fe_209_2 at_321 (by decide +kernel) rfl rfl ?_
  refine ay_t_stk (pc := 5) (S' := [.int 0]) fe_209_5 rfl ?_
  refine ay_t_loc (pc := 6) (L' := [some (.ref 321), some (.int 0), none]) fe_209_6 rfl ?_
  refine ay_t_stk (pc := 7) (S' := [.int 0]) fe_209_7 rfl ?_
  refine ay_t_loc (pc := 8) (L' := [some (.ref 321), some (.int 0), some (.int 0)]) fe_209_8 rfl ?_
  exact ay_t_less (ay_ls (ay_ls (ay_ls ay_l0))) (ev_209_9 _ _ _ _ _ _ h)
def fn_210 (a1 : Int32) (D : am_DD) : Option (Int32 × am_DD) := (if a1 < 0 then some (0, D) else (if 1000 < a1 then some (0, D) else some (1, D)))
set_option maxHeartbeats 2000000 in
theorem ev_210 {a1 : Int32} {D : am_DD} {y : Int32} {Z : am_DD} (h : fn_210 a1 D = some (y, Z)) : ay_mo 210 [.int a1] D (.inl (some (.int y))) Z := by
  unfold fn_210 at h
  refine ay_m_of (L := [some (.int a1)]) rfl ?_
  refine ay_t_loc (pc := 0) fe_210_0 rfl ?_
  by_cases hc1 : a1 < 0
  · rw [if_pos hc1] at h
    refine ay_t_pos (pc := 1) hc1 fe_210_1 rfl ?_
    refine ay_t_stk (pc := 15) (S' := [.int 0]) fe_210_15 rfl ?_
    cases h
    exact ay_t_iret fe_210_16 rfl rfl
  · rw [if_neg hc1] at h
    refine ay_t_neg (pc := 1) hc1 fe_210_1 rfl ?_
    refine ay_t_loc (pc := 4) fe_210_4 rfl ?_
    refine ay_t_stk (pc := 5) (S' := [.int 1000, .int a1]) fe_210_5 rfl ?_
    by_cases hc2 : 1000 < a1
    · rw [if_pos hc2] at h
      refine ay_t_pos (pc := 8) hc2 fe_210_8 rfl ?_
      refine ay_t_stk (pc := 15) (S' := [.int 0]) fe_210_15 rfl ?_
      cases h
      exact ay_t_iret fe_210_16 rfl rfl
    · rw [if_neg hc2] at h
      refine ay_t_neg (pc := 8) hc2 fe_210_8 rfl ?_
      refine ay_t_stk (pc := 11) (S' := [.int 1]) fe_210_11 rfl ?_
      refine ay_t_br (pc := 12) (pc' := 16) fe_210_12 rfl ?_
      cases h
      exact ay_t_iret fe_210_16 rfl rfl
def fn_211 (D : am_DD) : Option (Int32 × am_DD) := some (0, (rw_wipe (rw_copy D 10 35 12) 37 25))
set_option maxHeartbeats 2000000 in
theorem ev_211 {D : am_DD} {y : Int32} {Z : am_DD} (h : fn_211  D = some (y, Z)) : ay_mo 211 [.ref 33] D (.inl none) Z := by
  unfold fn_211 at h
  refine ay_m_of (L := [some (.ref 33)]) rfl ?_
  refine ay_t_loc (pc := 0) fe_211_0 rfl ?_
  refine ay_t_getR (pc := 1) (w := .ref 34) fe_211_1 at_33 (by decide +kernel) rfl ?_
  refine ay_t_loc (pc := 4) fe_211_4 rfl ?_
  refine ay_t_getR (pc := 5) (w := .ref 8) fe_211_5 at_33 (by decide +kernel) rfl ?_
  refine ay_t_getR (pc := 8) (w := .ref 9) fe_211_8 at_8 (by decide +kernel) rfl ?_
  refine ay_t_call (pc := 11) (w := none) fe_211_11 (ay_args [.ref 34, .ref 9] [] rfl rfl (Nat.le_of_ble_eq_true rfl) (Nat.le_of_ble_eq_true rfl)) (ay_rcvV at_34 rfl) (mt_copy at_34 at_35 at_9 at_10 (by decide)) ?_
  refine ay_t_loc (pc := 14) fe_211_14 rfl ?_
  refine ay_t_getR (pc := 15) (w := .ref 36) fe_211_15 at_33 (by decide +kernel) rfl ?_
  refine ay_t_call (pc := 18) (w := none) fe_211_18 (ay_args [.ref 36] [] rfl rfl (Nat.le_of_ble_eq_true rfl) (Nat.le_of_ble_eq_true rfl)) (ay_rcvV at_36 rfl) (mt_wipe at_36 at_37 (by decide)) ?_
  cases h
  exact ay_t_vret fe_211_21 rfl
def fn_212_4 : Nat → Int32 → Int32 → am_DD → Option (Int32 × am_DD)
  | 0, _, _, _ => none
  | n + 1, x1, x2, D => (if 12 ≤ x2 then some ((x1 - 20), (rw_raise D 37 25 x1 1)) else (match fn_36 x1 D with | none => none | some (y2, D3) => (if y2 = 0 then some ((x1 - 20), (rw_raise D3 37 25 x1 1)) else (match fn_73 x1 (rw_at ((rw_raise D3 37 25 x1 1) 35) 12 x1) (rw_put (rw_raise D3 37 25 x1 1) 35 12 x1 (1 - (rw_at ((rw_raise D3 37 25 x1 1) 35) 12 x1))) with | none => none | some (y6, D7) => fn_212_4 n y6 (x2 + 1) D7))))
set_option maxHeartbeats 2000000 in
theorem ev_212_4 : ∀ (n : Nat) (x1 x2 : Int32) (D : am_DD) (y : Int32) (Z : am_DD), fn_212_4 n x1 x2 D = some (y, Z) → ay_to 212 4 [some (.ref 33), some (.int x1), some (.int x2), none] [] D (.inl (some (.int y))) Z := by
  intro n
  induction n with
  | zero => intro x1 x2 D y Z h; cases h
  | succ n ih =>
    intro x1 x2 D y Z h
    rw [fn_212_4] at h
    refine ay_t_loc (pc := 4) fe_212_4 rfl ?_
    refine ay_t_stk (pc := 5) (S' := [.int 12, .int x2]) fe_212_5 rfl ?_
    by_cases hc1 : 12 ≤ x2
    · rw [if_pos hc1] at h
      refine ay_t_pos (pc := 7) hc1 fe_212_7 rfl ?_
      refine ay_t_loc (pc := 66) fe_212_66 rfl ?_
      refine ay_t_getR (pc := 67) (w := .ref 36) fe_212_67 at_33 (by decide +kernel) rfl ?_
      refine ay_t_loc (pc := 70) fe_212_70 rfl ?_
      refine ay_t_stk (pc := 71) (S' := [.int 1, .int x1, .ref 36]) fe_212_71 rfl ?_
      refine ay_t_call (pc := 72) (w := none) fe_212_72 (ay_args [.ref 36, .int x1, .int 1] [] rfl rfl (Nat.le_of_ble_eq_true rfl) (Nat.le_of_ble_eq_true rfl)) (ay_rcvV at_36 rfl) (mt_raise at_36 at_37 (by decide)) ?_
      refine ay_t_loc (pc := 75) fe_212_75 rfl ?_
      refine ay_t_stk (pc := 76) (S' := [.int 20, .int x1]) fe_212_76 rfl ?_
      refine ay_t_stk (pc := 78) (S' := [.int (x1 - 20)]) fe_212_78 rfl ?_
      cases h
      exact ay_t_iret fe_212_79 rfl rfl
    · rw [if_neg hc1] at h
      refine ay_t_neg (pc := 7) hc1 fe_212_7 rfl ?_
      refine ay_t_loc (pc := 10) fe_212_10 rfl ?_
      refine ay_t_getR (pc := 11) (w := .ref 8) fe_212_11 at_33 (by decide +kernel) rfl ?_
      refine ay_t_loc (pc := 14) fe_212_14 rfl ?_
      cases hk4 : fn_36 x1 D with
      | none => rw [hk4] at h; cases h
      | some z =>
        obtain ⟨y2, D3⟩ := z
        rw [hk4] at h
        dsimp only at h
        refine ay_t_call (pc := 15) (w := some (.int y2)) fe_212_15 (ay_args [.ref 8, .int x1] [] rfl rfl (Nat.le_of_ble_eq_true rfl) (Nat.le_of_ble_eq_true rfl)) (ay_rcvV at_8 rfl) (ev_36 hk4) ?_
        by_cases hc5 : y2 = 0
        · rw [if_pos hc5] at h
          refine ay_t_pos (pc := 18) hc5 fe_212_18 rfl ?_
          refine ay_t_loc (pc := 66) fe_212_66 rfl ?_
          refine ay_t_getR (pc := 67) (w := .ref 36) fe_212_67 at_33 (by decide +kernel) rfl ?_
          refine ay_t_loc (pc := 70) fe_212_70 rfl ?_
          refine ay_t_stk (pc := 71) (S' := [.int 1, .int x1, .ref 36]) fe_212_71 rfl ?_
          refine ay_t_call (pc := 72) (w := none) fe_212_72 (ay_args [.ref 36, .int x1, .int 1] [] rfl rfl (Nat.le_of_ble_eq_true rfl) (Nat.le_of_ble_eq_true rfl)) (ay_rcvV at_36 rfl) (mt_raise at_36 at_37 (by decide)) ?_
          refine ay_t_loc (pc := 75) fe_212_75 rfl ?_
          refine ay_t_stk (pc := 76) (S' := [.int 20, .int x1]) fe_212_76 rfl ?_
          refine ay_t_stk (pc := 78) (S' := [.int (x1 - 20)]) fe_212_78 rfl ?_
          cases h
          exact ay_t_iret fe_212_79 rfl rfl
        · rw [if_neg hc5] at h
          refine ay_t_neg (pc := 18) hc5 fe_212_18 rfl ?_
          refine ay_t_loc (pc := 21) fe_212_21 rfl ?_
          refine ay_t_getR (pc := 22) (w := .ref 36) fe_212_22 at_33 (by decide +kernel) rfl ?_
          refine ay_t_loc (pc := 25) fe_212_25 rfl ?_
          refine ay_t_stk (pc := 26) (S' := [.int 1, .int x1, .ref 36]) fe_212_26 rfl ?_
          refine ay_t_call (pc := 27) (w := none) fe_212_27 (ay_args [.ref 36, .int x1, .int 1] [] rfl rfl (Nat.le_of_ble_eq_true rfl) (Nat.le_of_ble_eq_true rfl)) (ay_rcvV at_36 rfl) (mt_raise at_36 at_37 (by decide)) ?_
          refine ay_t_loc (pc := 30) fe_212_30 rfl ?_
          refine ay_t_getR (pc := 31) (w := .ref 34) fe_212_31 at_33 (by decide +kernel) rfl ?_
          refine ay_t_loc (pc := 34) fe_212_34 rfl ?_
          refine ay_t_call (pc := 35) (w := some (.int (rw_at ((rw_raise D3 37 25 x1 1) 35) 12 x1))) fe_212_35 (ay_args [.ref 34, .int x1] [] rfl rfl (Nat.le_of_ble_eq_true rfl) (Nat.le_of_ble_eq_true rfl)) (ay_rcvV at_34 rfl) (mt_at at_34 at_35 (by decide)) ?_
          refine ay_t_loc (pc := 38) (L' := [some (.ref 33), some (.int x1), some (.int x2), some (.int (rw_at ((rw_raise D3 37 25 x1 1) 35) 12 x1))]) fe_212_38 rfl ?_
          refine ay_t_loc (pc := 39) fe_212_39 rfl ?_
          refine ay_t_getR (pc := 40) (w := .ref 34) fe_212_40 at_33 (by decide +kernel) rfl ?_
          refine ay_t_loc (pc := 43) fe_212_43 rfl ?_
          refine ay_t_stk (pc := 44) (S' := [.int 1, .int x1, .ref 34]) fe_212_44 rfl ?_
          refine ay_t_loc (pc := 45) fe_212_45 rfl ?_
          refine ay_t_stk (pc := 46) (S' := [.int (1 - (rw_at ((rw_raise D3 37 25 x1 1) 35) 12 x1)), .int x1, .ref 34]) fe_212_46 rfl ?_
          refine ay_t_call (pc := 47) (w := none) fe_212_47 (ay_args [.ref 34, .int x1, .int (1 - (rw_at ((rw_raise D3 37 25 x1 1) 35) 12 x1))] [] rfl rfl (Nat.le_of_ble_eq_true rfl) (Nat.le_of_ble_eq_true rfl)) (ay_rcvV at_34 rfl) (mt_put at_34 at_35 (by decide)) ?_
          refine ay_t_loc (pc := 50) fe_212_50 rfl ?_
          refine ay_t_getR (pc := 51) (w := .ref 8) fe_212_51 at_33 (by decide +kernel) rfl ?_
          refine ay_t_loc (pc := 54) fe_212_54 rfl ?_
          refine ay_t_loc (pc := 55) fe_212_55 rfl ?_
          cases hk8 : fn_73 x1 (rw_at ((rw_raise D3 37 25 x1 1) 35) 12 x1) (rw_put (rw_raise D3 37 25 x1 1) 35 12 x1 (1 - (rw_at ((rw_raise D3 37 25 x1 1) 35) 12 x1))) with
          | none => rw [hk8] at h; cases h
          | some z =>
            obtain ⟨y6, D7⟩ := z
            rw [hk8] at h
            dsimp only at h
            refine ay_t_call (pc := 56) (w := some (.int y6)) fe_212_56 (ay_args [.ref 8, .int x1, .int (rw_at ((rw_raise D3 37 25 x1 1) 35) 12 x1)] [] rfl rfl (Nat.le_of_ble_eq_true rfl) (Nat.le_of_ble_eq_true rfl)) (ay_rcvV at_8 rfl) (ev_73 hk8) ?_
            refine ay_t_loc (pc := 59) (L' := [some (.ref 33), some (.int y6), some (.int x2), some (.int (rw_at ((rw_raise D3 37 25 x1 1) 35) 12 x1))]) fe_212_59 rfl ?_
            refine ay_t_loc (pc := 60) (L' := [some (.ref 33), some (.int y6), some (.int (x2 + 1)), some (.int (rw_at ((rw_raise D3 37 25 x1 1) 35) 12 x1))]) fe_212_60 rfl ?_
            refine ay_t_br (pc := 63) (pc' := 4) fe_212_63 rfl ?_
            exact ay_t_less (ay_ls (ay_ls (ay_ls (ay_ln ay_l0)))) (ih _ _ _ _ _ h)
def fn_212 (D : am_DD) : Option (Int32 × am_DD) := fn_212_4 am_F 0 0 D
set_option maxHeartbeats 2000000 in
theorem ev_212 {D : am_DD} {y : Int32} {Z : am_DD} (h : fn_212  D = some (y, Z)) : ay_mo 212 [.ref 33] D (.inl (some (.int y))) Z := by
  unfold fn_212 at h
  refine ay_m_of (L := [some (.ref 33), none, none, none]) rfl ?_
  refine ay_t_stk (pc := 0) (S' := [.int 0]) fe_212_0 rfl ?_
  refine ay_t_loc (pc := 1) (L' := [some (.ref 33), some (.int 0), none, none]) fe_212_1 rfl ?_
  refine ay_t_stk (pc := 2) (S' := [.int 0]) fe_212_2 rfl ?_
  refine ay_t_loc (pc := 3) (L' := [some (.ref 33), some (.int 0), some (.int 0), none]) fe_212_3 rfl ?_
  exact ay_t_less (ay_ls (ay_ls (ay_ls (ay_ls ay_l0)))) (ev_212_4 _ _ _ _ _ _ h)
def fn_213_19 : Nat → Int32 → Int32 → Int32 → am_DD → Option (Int32 × am_DD)
  | 0, _, _, _, _ => none
  | n + 1, x1, x2, x3, D => (if x1 ≤ x3 then some ((rw_at (D 37) 25 x2), D) else (match fn_212 D with | none => none | some (y9, D10) => fn_213_19 n x1 x2 (x3 + 1) D10))
set_option maxHeartbeats 2000000 in
theorem ev_213_19 : ∀ (n : Nat) (x1 x2 x3 : Int32) (D : am_DD) (y : Int32) (Z : am_DD), fn_213_19 n x1 x2 x3 D = some (y, Z) → ay_to 213 19 [some (.ref 33), some (.int x1), some (.int x2), some (.int x3)] [] D (.inl (some (.int y))) Z := by
  intro n
  induction n with
  | zero => intro x1 x2 x3 D y Z h; cases h
  | succ n ih =>
    intro x1 x2 x3 D y Z h
    rw [fn_213_19] at h
    refine ay_t_loc (pc := 19) fe_213_19 rfl ?_
    refine ay_t_loc (pc := 20) fe_213_20 rfl ?_
    by_cases hc8 : x1 ≤ x3
    · rw [if_pos hc8] at h
      refine ay_t_pos (pc := 21) hc8 fe_213_21 rfl ?_
      refine ay_t_loc (pc := 35) fe_213_35 rfl ?_
      refine ay_t_getR (pc := 36) (w := .ref 36) fe_213_36 at_33 (by decide +kernel) rfl ?_
      refine ay_t_loc (pc := 39) fe_213_39 rfl ?_
      refine ay_t_call (pc := 40) (w := some (.int (rw_at (D 37) 25 x2))) fe_213_40 (ay_args [.ref 36, .int x2] [] rfl rfl (Nat.le_of_ble_eq_true rfl) (Nat.le_of_ble_eq_true rfl)) (ay_rcvV at_36 rfl) (mt_at at_36 at_37 (by decide)) ?_
      cases h
      exact ay_t_iret fe_213_43 rfl rfl
    · rw [if_neg hc8] at h
      refine ay_t_neg (pc := 21) hc8 fe_213_21 rfl ?_
      refine ay_t_loc (pc := 24) fe_213_24 rfl ?_
      cases hk11 : fn_212 D with
      | none => rw [hk11] at h; cases h
      | some z =>
        obtain ⟨y9, D10⟩ := z
        rw [hk11] at h
        dsimp only at h
        refine ay_t_call (pc := 25) (w := some (.int y9)) fe_213_25 (ay_args [.ref 33] [] rfl rfl (Nat.le_of_ble_eq_true rfl) (Nat.le_of_ble_eq_true rfl)) (ay_rcvV at_33 rfl) (ev_212 hk11) ?_
        refine ay_t_stk (pc := 28) (S' := []) fe_213_28 rfl ?_
        refine ay_t_loc (pc := 29) (L' := [some (.ref 33), some (.int x1), some (.int x2), some (.int (x3 + 1))]) fe_213_29 rfl ?_
        refine ay_t_br (pc := 32) (pc' := 19) fe_213_32 rfl ?_
        exact ay_t_less (ay_ls (ay_ls (ay_ls (ay_ls ay_l0)))) (ih _ _ _ _ _ _ h)
def fn_213 (a1 a2 : Int32) (D : am_DD) : Option (Int32 × am_DD) := (match fn_36 0 D with | none => none | some (y1, D2) => (if ¬ y1 = 0 then (match fn_211 D2 with | none => none | some (y5, D6) => fn_213_19 am_F a1 a2 0 D6) else some (0, D2)))
set_option maxHeartbeats 2000000 in
theorem ev_213 {a1 a2 : Int32} {D : am_DD} {y : Int32} {Z : am_DD} (h : fn_213 a1 a2 D = some (y, Z)) : ay_mo 213 [.ref 33, .int a1, .int a2] D (.inl (some (.int y))) Z := by
  unfold fn_213 at h
  refine ay_m_of (L := [some (.ref 33), some (.int a1), some (.int a2), none]) rfl ?_
  refine ay_t_loc (pc := 0) fe_213_0 rfl ?_
  refine ay_t_getR (pc := 1) (w := .ref 8) fe_213_1 at_33 (by decide +kernel) rfl ?_
  refine ay_t_stk (pc := 4) (S' := [.int 0, .ref 8]) fe_213_4 rfl ?_
  cases hk3 : fn_36 0 D with
  | none => rw [hk3] at h; cases h
  | some z =>
    obtain ⟨y1, D2⟩ := z
    rw [hk3] at h
    dsimp only at h
    refine ay_t_call (pc := 5) (w := some (.int y1)) fe_213_5 (ay_args [.ref 8, .int 0] [] rfl rfl (Nat.le_of_ble_eq_true rfl) (Nat.le_of_ble_eq_true rfl)) (ay_rcvV at_8 rfl) (ev_36 hk3) ?_
    by_cases hc4 : ¬ y1 = 0
    · rw [if_pos hc4] at h
      refine ay_t_pos (pc := 8) hc4 fe_213_8 rfl ?_
      refine ay_t_loc (pc := 13) fe_213_13 rfl ?_
      cases hk7 : fn_211 D2 with
      | none => rw [hk7] at h; cases h
      | some z =>
        obtain ⟨y5, D6⟩ := z
        rw [hk7] at h
        dsimp only at h
        refine ay_t_call (pc := 14) (w := none) fe_213_14 (ay_args [.ref 33] [] rfl rfl (Nat.le_of_ble_eq_true rfl) (Nat.le_of_ble_eq_true rfl)) (ay_rcvV at_33 rfl) (ev_211 hk7) ?_
        refine ay_t_stk (pc := 17) (S' := [.int 0]) fe_213_17 rfl ?_
        refine ay_t_loc (pc := 18) (L' := [some (.ref 33), some (.int a1), some (.int a2), some (.int 0)]) fe_213_18 rfl ?_
        exact ay_t_less (ay_ls (ay_ls (ay_ls (ay_ls ay_l0)))) (ev_213_19 _ _ _ _ _ _ _ h)
    · rw [if_neg hc4] at h
      refine ay_t_neg (pc := 8) hc4 fe_213_8 rfl ?_
      refine ay_t_stk (pc := 11) (S' := [.int 0]) fe_213_11 rfl ?_
      cases h
      exact ay_t_iret fe_213_12 rfl rfl
def fn_214_18 : Nat → Int32 → Int32 → am_DD → Option (Int32 × am_DD)
  | 0, _, _, _ => none
  | n + 1, x2, x3, D => (if (D 8 0) ≤ x3 then some ((rw_at (D 37) 25 x2), D) else (match fn_73 x3 (rw_at (D 10) 12 x3) D with | none => none | some (y2, D3) => (match fn_73 x3 (1 - (rw_at (D 10) 12 x3)) (rw_raise D3 37 25 y2 (((rw_at (D 37) 25 x3) + 1) / 2)) with | none => none | some (y5, D6) => fn_214_18 n x2 (x3 + 1) (rw_raise D6 37 25 y5 ((rw_at (D 37) 25 x3) / 2)))))
set_option maxHeartbeats 2000000 in
theorem ev_214_18 : ∀ (n : Nat) (x2 x3 : Int32) (D : am_DD) (y : Int32) (Z : am_DD), fn_214_18 n x2 x3 D = some (y, Z) → ay_to 214 18 [some (.ref 33), none, some (.int x2), some (.int x3), none, none] [] D (.inl (some (.int y))) Z := by
  intro n
  induction n with
  | zero => intro x2 x3 D y Z h; cases h
  | succ n ih =>
    intro x2 x3 D y Z h
    rw [fn_214_18] at h
    refine ay_t_loc (pc := 18) fe_214_18 rfl ?_
    refine ay_t_loc (pc := 19) fe_214_19 rfl ?_
    refine ay_t_getR (pc := 20) (w := .ref 8) fe_214_20 at_33 (by decide +kernel) rfl ?_
    refine ay_t_getI (pc := 23) fe_214_23 at_8 (by decide +kernel) rfl ?_
    by_cases hc1 : (D 8 0) ≤ x3
    · rw [if_pos hc1] at h
      refine ay_t_pos (pc := 26) hc1 fe_214_26 rfl ?_
      refine ay_t_loc (pc := 104) fe_214_104 rfl ?_
      refine ay_t_getR (pc := 105) (w := .ref 36) fe_214_105 at_33 (by decide +kernel) rfl ?_
      refine ay_t_loc (pc := 108) fe_214_108 rfl ?_
      refine ay_t_call (pc := 109) (w := some (.int (rw_at (D 37) 25 x2))) fe_214_109 (ay_args [.ref 36, .int x2] [] rfl rfl (Nat.le_of_ble_eq_true rfl) (Nat.le_of_ble_eq_true rfl)) (ay_rcvV at_36 rfl) (mt_at at_36 at_37 (by decide)) ?_
      cases h
      exact ay_t_iret fe_214_112 rfl rfl
    · rw [if_neg hc1] at h
      refine ay_t_neg (pc := 26) hc1 fe_214_26 rfl ?_
      refine ay_t_loc (pc := 29) fe_214_29 rfl ?_
      refine ay_t_getR (pc := 30) (w := .ref 8) fe_214_30 at_33 (by decide +kernel) rfl ?_
      refine ay_t_getR (pc := 33) (w := .ref 9) fe_214_33 at_8 (by decide +kernel) rfl ?_
      refine ay_t_loc (pc := 36) fe_214_36 rfl ?_
      refine ay_t_call (pc := 37) (w := some (.int (rw_at (D 10) 12 x3))) fe_214_37 (ay_args [.ref 9, .int x3] [] rfl rfl (Nat.le_of_ble_eq_true rfl) (Nat.le_of_ble_eq_true rfl)) (ay_rcvV at_9 rfl) (mt_at at_9 at_10 (by decide)) ?_
      refine ay_t_loc (pc := 40) (L' := [some (.ref 33), none, some (.int x2), some (.int x3), some (.int (rw_at (D 10) 12 x3)), none]) fe_214_40 rfl ?_
      refine ay_t_loc (pc := 42) fe_214_42 rfl ?_
      refine ay_t_getR (pc := 43) (w := .ref 36) fe_214_43 at_33 (by decide +kernel) rfl ?_
      refine ay_t_loc (pc := 46) fe_214_46 rfl ?_
      refine ay_t_call (pc := 47) (w := some (.int (rw_at (D 37) 25 x3))) fe_214_47 (ay_args [.ref 36, .int x3] [] rfl rfl (Nat.le_of_ble_eq_true rfl) (Nat.le_of_ble_eq_true rfl)) (ay_rcvV at_36 rfl) (mt_at at_36 at_37 (by decide)) ?_
      refine ay_t_loc (pc := 50) (L' := [some (.ref 33), none, some (.int x2), some (.int x3), some (.int (rw_at (D 10) 12 x3)), some (.int (rw_at (D 37) 25 x3))]) fe_214_50 rfl ?_
      refine ay_t_loc (pc := 52) fe_214_52 rfl ?_
      refine ay_t_getR (pc := 53) (w := .ref 36) fe_214_53 at_33 (by decide +kernel) rfl ?_
      refine ay_t_loc (pc := 56) fe_214_56 rfl ?_
      refine ay_t_getR (pc := 57) (w := .ref 8) fe_214_57 at_33 (by decide +kernel) rfl ?_
      refine ay_t_loc (pc := 60) fe_214_60 rfl ?_
      refine ay_t_loc (pc := 61) fe_214_61 rfl ?_
      cases hk4 : fn_73 x3 (rw_at (D 10) 12 x3) D with
      | none => rw [hk4] at h; cases h
      | some z =>
        obtain ⟨y2, D3⟩ := z
        rw [hk4] at h
        dsimp only at h
        refine ay_t_call (pc := 63) (w := some (.int y2)) fe_214_63 (ay_args [.ref 8, .int x3, .int (rw_at (D 10) 12 x3)] [.ref 36] rfl rfl (Nat.le_of_ble_eq_true rfl) (Nat.le_of_ble_eq_true rfl)) (ay_rcvV at_8 rfl) (ev_73 hk4) ?_
        refine ay_t_loc (pc := 66) fe_214_66 rfl ?_
        refine ay_t_stk (pc := 68) (S' := [.int 1, .int (rw_at (D 37) 25 x3), .int y2, .ref 36]) fe_214_68 rfl ?_
        refine ay_t_stk (pc := 69) (S' := [.int ((rw_at (D 37) 25 x3) + 1), .int y2, .ref 36]) fe_214_69 rfl ?_
        refine ay_t_stk (pc := 70) (S' := [.int 2, .int ((rw_at (D 37) 25 x3) + 1), .int y2, .ref 36]) fe_214_70 rfl ?_
        refine ay_t_stk (pc := 71) (S' := [.int (((rw_at (D 37) 25 x3) + 1) / 2), .int y2, .ref 36]) fe_214_71 (ay_idiv (by decide)) ?_
        refine ay_t_call (pc := 72) (w := none) fe_214_72 (ay_args [.ref 36, .int y2, .int (((rw_at (D 37) 25 x3) + 1) / 2)] [] rfl rfl (Nat.le_of_ble_eq_true rfl) (Nat.le_of_ble_eq_true rfl)) (ay_rcvV at_36 rfl) (mt_raise at_36 at_37 (by decide)) ?_
        refine ay_t_loc (pc := 75) fe_214_75 rfl ?_
        refine ay_t_getR (pc := 76) (w := .ref 36) fe_214_76 at_33 (by decide +kernel) rfl ?_
        refine ay_t_loc (pc := 79) fe_214_79 rfl ?_
        refine ay_t_getR (pc := 80) (w := .ref 8) fe_214_80 at_33 (by decide +kernel) rfl ?_
        refine ay_t_loc (pc := 83) fe_214_83 rfl ?_
        refine ay_t_stk (pc := 84) (S' := [.int 1, .int x3, .ref 8, .ref 36]) fe_214_84 rfl ?_
        refine ay_t_loc (pc := 85) fe_214_85 rfl ?_
        refine ay_t_stk (pc := 87) (S' := [.int (1 - (rw_at (D 10) 12 x3)), .int x3, .ref 8, .ref 36]) fe_214_87 rfl ?_
        cases hk7 : fn_73 x3 (1 - (rw_at (D 10) 12 x3)) (rw_raise D3 37 25 y2 (((rw_at (D 37) 25 x3) + 1) / 2)) with
        | none => rw [hk7] at h; cases h
        | some z =>
          obtain ⟨y5, D6⟩ := z
          rw [hk7] at h
          dsimp only at h
          refine ay_t_call (pc := 88) (w := some (.int y5)) fe_214_88 (ay_args [.ref 8, .int x3, .int (1 - (rw_at (D 10) 12 x3))] [.ref 36] rfl rfl (Nat.le_of_ble_eq_true rfl) (Nat.le_of_ble_eq_true rfl)) (ay_rcvV at_8 rfl) (ev_73 hk7) ?_
          refine ay_t_loc (pc := 91) fe_214_91 rfl ?_
          refine ay_t_stk (pc := 93) (S' := [.int 2, .int (rw_at (D 37) 25 x3), .int y5, .ref 36]) fe_214_93 rfl ?_
          refine ay_t_stk (pc := 94) (S' := [.int ((rw_at (D 37) 25 x3) / 2), .int y5, .ref 36]) fe_214_94 (ay_idiv (by decide)) ?_
          refine ay_t_call (pc := 95) (w := none) fe_214_95 (ay_args [.ref 36, .int y5, .int ((rw_at (D 37) 25 x3) / 2)] [] rfl rfl (Nat.le_of_ble_eq_true rfl) (Nat.le_of_ble_eq_true rfl)) (ay_rcvV at_36 rfl) (mt_raise at_36 at_37 (by decide)) ?_
          refine ay_t_loc (pc := 98) (L' := [some (.ref 33), none, some (.int x2), some (.int (x3 + 1)), some (.int (rw_at (D 10) 12 x3)), some (.int (rw_at (D 37) 25 x3))]) fe_214_98 rfl ?_
          refine ay_t_br (pc := 101) (pc' := 18) fe_214_101 rfl ?_
          exact ay_t_less (ay_ls (ay_ls (ay_ls (ay_ls (ay_ln (ay_ln ay_l0)))))) (ih _ _ _ _ _ h)
def fn_214 (a1 a2 : Int32) (D : am_DD) : Option (Int32 × am_DD) := fn_214_18 am_F a2 0 (rw_put (rw_wipe D 37 25) 37 25 0 a1)
set_option maxHeartbeats 2000000 in
theorem ev_214 {a1 a2 : Int32} {D : am_DD} {y : Int32} {Z : am_DD} (h : fn_214 a1 a2 D = some (y, Z)) : ay_mo 214 [.ref 33, .int a1, .int a2] D (.inl (some (.int y))) Z := by
  unfold fn_214 at h
  refine ay_m_of (L := [some (.ref 33), some (.int a1), some (.int a2), none, none, none]) rfl ?_
  refine ay_t_loc (pc := 0) fe_214_0 rfl ?_
  refine ay_t_getR (pc := 1) (w := .ref 36) fe_214_1 at_33 (by decide +kernel) rfl ?_
  refine ay_t_call (pc := 4) (w := none) fe_214_4 (ay_args [.ref 36] [] rfl rfl (Nat.le_of_ble_eq_true rfl) (Nat.le_of_ble_eq_true rfl)) (ay_rcvV at_36 rfl) (mt_wipe at_36 at_37 (by decide)) ?_
  refine ay_t_loc (pc := 7) fe_214_7 rfl ?_
  refine ay_t_getR (pc := 8) (w := .ref 36) fe_214_8 at_33 (by decide +kernel) rfl ?_
  refine ay_t_stk (pc := 11) (S' := [.int 0, .ref 36]) fe_214_11 rfl ?_
  refine ay_t_loc (pc := 12) fe_214_12 rfl ?_
  refine ay_t_call (pc := 13) (w := none) fe_214_13 (ay_args [.ref 36, .int 0, .int a1] [] rfl rfl (Nat.le_of_ble_eq_true rfl) (Nat.le_of_ble_eq_true rfl)) (ay_rcvV at_36 rfl) (mt_put at_36 at_37 (by decide)) ?_
  refine ay_t_stk (pc := 16) (S' := [.int 0]) fe_214_16 rfl ?_
  refine ay_t_loc (pc := 17) (L' := [some (.ref 33), some (.int a1), some (.int a2), some (.int 0), none, none]) fe_214_17 rfl ?_
  exact ay_t_less (ay_ls (ay_ln (ay_ls (ay_ls (ay_ls (ay_ls ay_l0)))))) (ev_214_18 _ _ _ _ _ _ h)
def fn_215 (a1 a2 a3 : Int32) (D : am_DD) : Option (Int32 × Nat × am_DD) := (match fn_38 a2 D with | none => none | some (y1, D2) => (if ¬ y1 = 0 then (match fn_210 a1 D2 with | none => none | some (y5, D6) => (if y5 = 0 then some (0, 1, D6) else (if a3 = 0 then (if ¬ a3 = 0 then (match fn_214 a1 a2 D6 with | none => none | some (y11, D12) => some (y11, 0, D12)) else (match fn_213 a1 a2 D6 with | none => none | some (y14, D15) => some (y14, 0, D15))) else (if a3 = 1 then (if ¬ a3 = 0 then (match fn_214 a1 a2 D6 with | none => none | some (y19, D20) => some (y19, 0, D20)) else (match fn_213 a1 a2 D6 with | none => none | some (y22, D23) => some (y22, 0, D23))) else some (0, 1, D6))))) else some (0, 3, D2)))
set_option maxHeartbeats 2000000 in
theorem ev_215 {a1 a2 a3 : Int32} {D : am_DD} {y : Int32} {k : Nat} {Z : am_DD} (h : fn_215 a1 a2 a3 D = some (y, k, Z)) : ay_mo 215 [.ref 0, .int a1, .int a2, .int a3] D (ay_oc y k) Z := by
  unfold fn_215 at h
  refine ay_m_of (L := [some (.ref 0), some (.int a1), some (.int a2), some (.int a3)]) rfl ?_
  refine ay_t_loc (pc := 0) fe_215_0 rfl ?_
  refine ay_t_getR (pc := 1) (w := .ref 1) fe_215_1 at_0 (by decide +kernel) rfl ?_
  refine ay_t_getR (pc := 4) (w := .ref 8) fe_215_4 at_1 (by decide +kernel) rfl ?_
  refine ay_t_loc (pc := 7) fe_215_7 rfl ?_
  cases hk3 : fn_38 a2 D with
  | none => rw [hk3] at h; cases h
  | some z =>
    obtain ⟨y1, D2⟩ := z
    rw [hk3] at h
    dsimp only at h
    refine ay_t_call (pc := 8) (w := some (.int y1)) fe_215_8 (ay_args [.ref 8, .int a2] [] rfl rfl (Nat.le_of_ble_eq_true rfl) (Nat.le_of_ble_eq_true rfl)) (ay_rcvV at_8 rfl) (ev_38 hk3) ?_
    by_cases hc4 : ¬ y1 = 0
    · rw [if_pos hc4] at h
      refine ay_t_pos (pc := 11) hc4 fe_215_11 rfl ?_
      refine ay_t_loc (pc := 25) fe_215_25 rfl ?_
      cases hk7 : fn_210 a1 D2 with
      | none => rw [hk7] at h; cases h
      | some z =>
        obtain ⟨y5, D6⟩ := z
        rw [hk7] at h
        dsimp only at h
        refine ay_t_call (pc := 26) (w := some (.int y5)) fe_215_26 (ay_args [.int a1] [] rfl rfl (Nat.le_of_ble_eq_true rfl) (Nat.le_of_ble_eq_true rfl)) rfl (ev_210 hk7) ?_
        by_cases hc8 : y5 = 0
        · rw [if_pos hc8] at h
          refine ay_t_pos (pc := 29) hc8 fe_215_29 rfl ?_
          cases h
          exact ay_t_thr fe_215_41 (by decide)
        · rw [if_neg hc8] at h
          refine ay_t_neg (pc := 29) hc8 fe_215_29 rfl ?_
          refine ay_t_loc (pc := 32) fe_215_32 rfl ?_
          by_cases hc9 : a3 = 0
          · rw [if_pos hc9] at h
            refine ay_t_pos (pc := 33) hc9 fe_215_33 rfl ?_
            refine ay_t_loc (pc := 52) fe_215_52 rfl ?_
            by_cases hc10 : ¬ a3 = 0
            · rw [if_pos hc10] at h
              refine ay_t_pos (pc := 53) hc10 fe_215_53 rfl ?_
              refine ay_t_loc (pc := 68) fe_215_68 rfl ?_
              refine ay_t_getR (pc := 69) (w := .ref 33) fe_215_69 at_0 (by decide +kernel) rfl ?_
              refine ay_t_loc (pc := 72) fe_215_72 rfl ?_
              refine ay_t_loc (pc := 73) fe_215_73 rfl ?_
              cases hk13 : fn_214 a1 a2 D6 with
              | none => rw [hk13] at h; cases h
              | some z =>
                obtain ⟨y11, D12⟩ := z
                rw [hk13] at h
                dsimp only at h
                refine ay_t_call (pc := 74) (w := some (.int y11)) fe_215_74 (ay_args [.ref 33, .int a1, .int a2] [] rfl rfl (Nat.le_of_ble_eq_true rfl) (Nat.le_of_ble_eq_true rfl)) (ay_rcvV at_33 rfl) (ev_214 hk13) ?_
                cases h
                exact ay_t_iret fe_215_77 rfl rfl
            · rw [if_neg hc10] at h
              refine ay_t_neg (pc := 53) hc10 fe_215_53 rfl ?_
              refine ay_t_loc (pc := 56) fe_215_56 rfl ?_
              refine ay_t_getR (pc := 57) (w := .ref 33) fe_215_57 at_0 (by decide +kernel) rfl ?_
              refine ay_t_loc (pc := 60) fe_215_60 rfl ?_
              refine ay_t_loc (pc := 61) fe_215_61 rfl ?_
              cases hk16 : fn_213 a1 a2 D6 with
              | none => rw [hk16] at h; cases h
              | some z =>
                obtain ⟨y14, D15⟩ := z
                rw [hk16] at h
                dsimp only at h
                refine ay_t_call (pc := 62) (w := some (.int y14)) fe_215_62 (ay_args [.ref 33, .int a1, .int a2] [] rfl rfl (Nat.le_of_ble_eq_true rfl) (Nat.le_of_ble_eq_true rfl)) (ay_rcvV at_33 rfl) (ev_213 hk16) ?_
                refine ay_t_br (pc := 65) (pc' := 77) fe_215_65 rfl ?_
                cases h
                exact ay_t_iret fe_215_77 rfl rfl
          · rw [if_neg hc9] at h
            refine ay_t_neg (pc := 33) hc9 fe_215_33 rfl ?_
            refine ay_t_loc (pc := 36) fe_215_36 rfl ?_
            refine ay_t_stk (pc := 37) (S' := [.int 1, .int a3]) fe_215_37 rfl ?_
            by_cases hc17 : a3 = 1
            · rw [if_pos hc17] at h
              refine ay_t_pos (pc := 38) hc17 fe_215_38 rfl ?_
              refine ay_t_loc (pc := 52) fe_215_52 rfl ?_
              by_cases hc18 : ¬ a3 = 0
              · rw [if_pos hc18] at h
                refine ay_t_pos (pc := 53) hc18 fe_215_53 rfl ?_
                refine ay_t_loc (pc := 68) fe_215_68 rfl ?_
                refine ay_t_getR (pc := 69) (w := .ref 33) fe_215_69 at_0 (by decide +kernel) rfl ?_
                refine ay_t_loc (pc := 72) fe_215_72 rfl ?_
                refine ay_t_loc (pc := 73) fe_215_73 rfl ?_
                cases hk21 : fn_214 a1 a2 D6 with
                | none => rw [hk21] at h; cases h
                | some z =>
                  obtain ⟨y19, D20⟩ := z
                  rw [hk21] at h
                  dsimp only at h
                  refine ay_t_call (pc := 74) (w := some (.int y19)) fe_215_74 (ay_args [.ref 33, .int a1, .int a2] [] rfl rfl (Nat.le_of_ble_eq_true rfl) (Nat.le_of_ble_eq_true rfl)) (ay_rcvV at_33 rfl) (ev_214 hk21) ?_
                  cases h
                  exact ay_t_iret fe_215_77 rfl rfl
              · rw [if_neg hc18] at h
                refine ay_t_neg (pc := 53) hc18 fe_215_53 rfl ?_
                refine ay_t_loc (pc := 56) fe_215_56 rfl ?_
                refine ay_t_getR (pc := 57) (w := .ref 33) fe_215_57 at_0 (by decide +kernel) rfl ?_
                refine ay_t_loc (pc := 60) fe_215_60 rfl ?_
                refine ay_t_loc (pc := 61) fe_215_61 rfl ?_
                cases hk24 : fn_213 a1 a2 D6 with
                | none => rw [hk24] at h; cases h
                | some z =>
                  obtain ⟨y22, D23⟩ := z
                  rw [hk24] at h
                  dsimp only at h
                  refine ay_t_call (pc := 62) (w := some (.int y22)) fe_215_62 (ay_args [.ref 33, .int a1, .int a2] [] rfl rfl (Nat.le_of_ble_eq_true rfl) (Nat.le_of_ble_eq_true rfl)) (ay_rcvV at_33 rfl) (ev_213 hk24) ?_
                  refine ay_t_br (pc := 65) (pc' := 77) fe_215_65 rfl ?_
                  cases h
                  exact ay_t_iret fe_215_77 rfl rfl
            · rw [if_neg hc17] at h
              refine ay_t_neg (pc := 38) hc17 fe_215_38 rfl ?_
              cases h
              exact ay_t_thr fe_215_41 (by decide)
    · rw [if_neg hc4] at h
      refine ay_t_neg (pc := 11) hc4 fe_215_11 rfl ?_
      cases h
      exact ay_t_thr fe_215_14 (by decide)
def fn_217 (a1 : Int32) (D : am_DD) : Option (Int32 × am_DD) := (match fn_26 a1 0 1000 D with | none => none | some (y1, D2) => (if ay_isb y1 then some (y1, D2) else none))
set_option maxHeartbeats 2000000 in
theorem ev_217 {a1 : Int32} {D : am_DD} {y : Int32} {Z : am_DD} (h : fn_217 a1 D = some (y, Z)) : ay_mo 217 [.int a1] D (.inl (some (.int y))) Z := by
  unfold fn_217 at h
  refine ay_m_of (L := [some (.int a1)]) rfl ?_
  refine ay_t_loc (pc := 0) fe_217_0 rfl ?_
  refine ay_t_stk (pc := 1) (S' := [.int 0, .int a1]) fe_217_1 rfl ?_
  refine ay_t_stk (pc := 2) (S' := [.int 1000, .int 0, .int a1]) fe_217_2 rfl ?_
  cases hk3 : fn_26 a1 0 1000 D with
  | none => rw [hk3] at h; cases h
  | some z =>
    obtain ⟨y1, D2⟩ := z
    rw [hk3] at h
    dsimp only at h
    refine ay_t_call (pc := 5) (w := some (.int y1)) fe_217_5 (ay_args [.int a1, .int 0, .int 1000] [] rfl rfl (Nat.le_of_ble_eq_true rfl) (Nat.le_of_ble_eq_true rfl)) rfl (ev_26 hk3) ?_
    by_cases hn4 : ay_isb y1
    · rw [if_pos hn4] at h
      cases h
      exact ay_t_zret fe_217_8 rfl hn4
    · rw [if_neg hn4] at h; cases h
def fn_218_39 : Nat → Int32 → am_DD → Option (Int32 × am_DD)
  | 0, _, _ => none
  | n + 1, x2, D => (if (D 322 1) ≤ x2 then some (0, D) else (match fn_48 x2 0 D with | none => none | some (y5, D6) => (match fn_48 x2 (2 + y5) D6 with | none => none | some (y8, D9) => (if y8 < 0 ∨ 25 ≤ y8.toNatClampNeg then none else (if x2 < 0 ∨ 25 ≤ x2.toNatClampNeg then none else (if y8 < 0 ∨ 25 ≤ y8.toNatClampNeg then none else (match fn_48 x2 0 (am_upd D9 327 y8.toNatClampNeg ((D9 327 y8.toNatClampNeg) + (((D9 327 x2.toNatClampNeg) + 1) / 2))) with | none => none | some (y14, D15) => (match fn_48 x2 (3 - y14) D15 with | none => none | some (y17, D18) => (if y17 < 0 ∨ 25 ≤ y17.toNatClampNeg then none else (if x2 < 0 ∨ 25 ≤ x2.toNatClampNeg then none else (if y17 < 0 ∨ 25 ≤ y17.toNatClampNeg then none else fn_218_39 n (x2 + 1) (am_upd D18 327 y17.toNatClampNeg ((D18 327 y17.toNatClampNeg) + ((D18 327 x2.toNatClampNeg) / 2))))))))))))))
set_option maxHeartbeats 2000000 in
theorem ev_218_39 : ∀ (n : Nat) (x2 : Int32) (D : am_DD) (y : Int32) (Z : am_DD), fn_218_39 n x2 D = some (y, Z) → ay_to 218 39 [some (.ref 321), none, some (.int x2)] [] D (.inl none) Z := by
  intro n
  induction n with
  | zero => intro x2 D y Z h; cases h
  | succ n ih =>
    intro x2 D y Z h
    rw [fn_218_39] at h
    refine ay_t_loc (pc := 39) fe_218_39 rfl ?_
    refine ay_t_loc (pc := 40) fe_218_40 rfl ?_
    refine ay_t_getR (pc := 41) (w := .ref 322) fe_218_41 at_321 (by decide +kernel) rfl ?_
    refine ay_t_stk (pc := 44) (S' := [.int 1, .ref 322, .int x2]) fe_218_44 rfl ?_
    refine ay_t_ialoadk (pc := 45) (k := 1) fe_218_45 at_322 (by decide) (by decide) (by decide) ?_
    by_cases hc4 : (D 322 1) ≤ x2
    · rw [if_pos hc4] at h
      refine ay_t_pos (pc := 46) hc4 fe_218_46 rfl ?_
      cases h
      exact ay_t_vret fe_218_115 rfl
    · rw [if_neg hc4] at h
      refine ay_t_neg (pc := 46) hc4 fe_218_46 rfl ?_
      refine ay_t_loc (pc := 49) fe_218_49 rfl ?_
      refine ay_t_getR (pc := 50) (w := .ref 327) fe_218_50 at_321 (by decide +kernel) rfl ?_
      refine ay_t_loc (pc := 53) fe_218_53 rfl ?_
      refine ay_t_loc (pc := 54) fe_218_54 rfl ?_
      refine ay_t_stk (pc := 55) (S' := [.int 2, .int x2, .ref 321, .ref 327]) fe_218_55 rfl ?_
      refine ay_t_loc (pc := 56) fe_218_56 rfl ?_
      refine ay_t_loc (pc := 57) fe_218_57 rfl ?_
      refine ay_t_stk (pc := 58) (S' := [.int 0, .int x2, .ref 321, .int 2, .int x2, .ref 321, .ref 327]) fe_218_58 rfl ?_
      cases hk7 : fn_48 x2 0 D with
      | none => rw [hk7] at h; cases h
      | some z =>
        obtain ⟨y5, D6⟩ := z
        rw [hk7] at h
        dsimp only at h
        refine ay_t_call (pc := 59) (w := some (.int y5)) fe_218_59 (ay_args [.ref 321, .int x2, .int 0] [.int 2, .int x2, .ref 321, .ref 327] rfl rfl (Nat.le_of_ble_eq_true rfl) (Nat.le_of_ble_eq_true rfl)) (ay_rcvV at_321 rfl) (ev_48 hk7) ?_
        refine ay_t_stk (pc := 62) (S' := [.int (2 + y5), .int x2, .ref 321, .ref 327]) fe_218_62 rfl ?_
        cases hk10 : fn_48 x2 (2 + y5) D6 with
        | none => rw [hk10] at h; cases h
        | some z =>
          obtain ⟨y8, D9⟩ := z
          rw [hk10] at h
          dsimp only at h
          refine ay_t_call (pc := 63) (w := some (.int y8)) fe_218_63 (ay_args [.ref 321, .int x2, .int (2 + y5)] [.ref 327] rfl rfl (Nat.le_of_ble_eq_true rfl) (Nat.le_of_ble_eq_true rfl)) (ay_rcvV at_321 rfl) (ev_48 hk10) ?_
          refine ay_t_stk (pc := 66) (S' := [.int y8, .ref 327, .int y8, .ref 327]) fe_218_66 rfl ?_
          by_cases hb11 : y8 < 0 ∨ 25 ≤ y8.toNatClampNeg
          · rw [if_pos hb11] at h; cases h
          rw [if_neg hb11] at h
          refine ay_t_iaload (pc := 67) fe_218_67 at_327 (by decide) hb11 ?_
          refine ay_t_loc (pc := 68) fe_218_68 rfl ?_
          refine ay_t_getR (pc := 69) (w := .ref 327) fe_218_69 at_321 (by decide +kernel) rfl ?_
          refine ay_t_loc (pc := 72) fe_218_72 rfl ?_
          by_cases hb12 : x2 < 0 ∨ 25 ≤ x2.toNatClampNeg
          · rw [if_pos hb12] at h; cases h
          rw [if_neg hb12] at h
          refine ay_t_iaload (pc := 73) fe_218_73 at_327 (by decide) hb12 ?_
          refine ay_t_stk (pc := 74) (S' := [.int 1, .int (D9 327 x2.toNatClampNeg), .int (D9 327 y8.toNatClampNeg), .int y8, .ref 327]) fe_218_74 rfl ?_
          refine ay_t_stk (pc := 75) (S' := [.int ((D9 327 x2.toNatClampNeg) + 1), .int (D9 327 y8.toNatClampNeg), .int y8, .ref 327]) fe_218_75 rfl ?_
          refine ay_t_stk (pc := 76) (S' := [.int 2, .int ((D9 327 x2.toNatClampNeg) + 1), .int (D9 327 y8.toNatClampNeg), .int y8, .ref 327]) fe_218_76 rfl ?_
          refine ay_t_stk (pc := 77) (S' := [.int (((D9 327 x2.toNatClampNeg) + 1) / 2), .int (D9 327 y8.toNatClampNeg), .int y8, .ref 327]) fe_218_77 (ay_idiv (by decide)) ?_
          refine ay_t_stk (pc := 78) (S' := [.int ((D9 327 y8.toNatClampNeg) + (((D9 327 x2.toNatClampNeg) + 1) / 2)), .int y8, .ref 327]) fe_218_78 rfl ?_
          by_cases hb13 : y8 < 0 ∨ 25 ≤ y8.toNatClampNeg
          · rw [if_pos hb13] at h; cases h
          rw [if_neg hb13] at h
          refine ay_t_iastore (pc := 79) fe_218_79 at_327 hb13 ?_
          refine ay_t_loc (pc := 80) fe_218_80 rfl ?_
          refine ay_t_getR (pc := 81) (w := .ref 327) fe_218_81 at_321 (by decide +kernel) rfl ?_
          refine ay_t_loc (pc := 84) fe_218_84 rfl ?_
          refine ay_t_loc (pc := 85) fe_218_85 rfl ?_
          refine ay_t_stk (pc := 86) (S' := [.int 3, .int x2, .ref 321, .ref 327]) fe_218_86 rfl ?_
          refine ay_t_loc (pc := 87) fe_218_87 rfl ?_
          refine ay_t_loc (pc := 88) fe_218_88 rfl ?_
          refine ay_t_stk (pc := 89) (S' := [.int 0, .int x2, .ref 321, .int 3, .int x2, .ref 321, .ref 327]) fe_218_89 rfl ?_
          cases hk16 : fn_48 x2 0 (am_upd D9 327 y8.toNatClampNeg ((D9 327 y8.toNatClampNeg) + (((D9 327 x2.toNatClampNeg) + 1) / 2))) with
          | none => rw [hk16] at h; cases h
          | some z =>
            obtain ⟨y14, D15⟩ := z
            rw [hk16] at h
            dsimp only at h
            refine ay_t_call (pc := 90) (w := some (.int y14)) fe_218_90 (ay_args [.ref 321, .int x2, .int 0] [.int 3, .int x2, .ref 321, .ref 327] rfl rfl (Nat.le_of_ble_eq_true rfl) (Nat.le_of_ble_eq_true rfl)) (ay_rcvV at_321 rfl) (ev_48 hk16) ?_
            refine ay_t_stk (pc := 93) (S' := [.int (3 - y14), .int x2, .ref 321, .ref 327]) fe_218_93 rfl ?_
            cases hk19 : fn_48 x2 (3 - y14) D15 with
            | none => rw [hk19] at h; cases h
            | some z =>
              obtain ⟨y17, D18⟩ := z
              rw [hk19] at h
              dsimp only at h
              refine ay_t_call (pc := 94) (w := some (.int y17)) fe_218_94 (ay_args [.ref 321, .int x2, .int (3 - y14)] [.ref 327] rfl rfl (Nat.le_of_ble_eq_true rfl) (Nat.le_of_ble_eq_true rfl)) (ay_rcvV at_321 rfl) (ev_48 hk19) ?_
              refine ay_t_stk (pc := 97) (S' := [.int y17, .ref 327, .int y17, .ref 327]) fe_218_97 rfl ?_
              by_cases hb20 : y17 < 0 ∨ 25 ≤ y17.toNatClampNeg
              · rw [if_pos hb20] at h; cases h
              rw [if_neg hb20] at h
              refine ay_t_iaload (pc := 98) fe_218_98 at_327 (by decide) hb20 ?_
              refine ay_t_loc (pc := 99) fe_218_99 rfl ?_
              refine ay_t_getR (pc := 100) (w := .ref 327) fe_218_100 at_321 (by decide +kernel) rfl ?_
              refine ay_t_loc (pc := 103) fe_218_103 rfl ?_
              by_cases hb21 : x2 < 0 ∨ 25 ≤ x2.toNatClampNeg
              · rw [if_pos hb21] at h; cases h
              rw [if_neg hb21] at h
              refine ay_t_iaload (pc := 104) fe_218_104 at_327 (by decide) hb21 ?_
              refine ay_t_stk (pc := 105) (S' := [.int 2, .int (D18 327 x2.toNatClampNeg), .int (D18 327 y17.toNatClampNeg), .int y17, .ref 327]) fe_218_105 rfl ?_
              refine ay_t_stk (pc := 106) (S' := [.int ((D18 327 x2.toNatClampNeg) / 2), .int (D18 327 y17.toNatClampNeg), .int y17, .ref 327]) fe_218_106 (ay_idiv (by decide)) ?_
              refine ay_t_stk (pc := 107) (S' := [.int ((D18 327 y17.toNatClampNeg) + ((D18 327 x2.toNatClampNeg) / 2)), .int y17, .ref 327]) fe_218_107 rfl ?_
              by_cases hb22 : y17 < 0 ∨ 25 ≤ y17.toNatClampNeg
              · rw [if_pos hb22] at h; cases h
              rw [if_neg hb22] at h
              refine ay_t_iastore (pc := 108) fe_218_108 at_327 hb22 ?_
              refine ay_t_loc (pc := 109) (L' := [some (.ref 321), none, some (.int (x2 + 1))]) fe_218_109 rfl ?_
              refine ay_t_br (pc := 112) (pc' := 39) fe_218_112 rfl ?_
              exact ay_t_less (ay_ls (ay_ls (ay_ls ay_l0))) (ih _ _ _ _ h)
def fn_218_2 : Nat → Int32 → Int32 → am_DD → Option (Int32 × am_DD)
  | 0, _, _, _ => none
  | n + 1, x1, x2, D => (if 25 ≤ x2 then (if (D 322 1) ≤ 0 then fn_218_39 am_F 0 D else fn_218_39 am_F 0 (am_upd D 327 0 x1)) else (if x2 < 0 ∨ 25 ≤ x2.toNatClampNeg then none else fn_218_2 n x1 (x2 + 1) (am_upd D 327 x2.toNatClampNeg 0)))
set_option maxHeartbeats 2000000 in
theorem ev_218_2 : ∀ (n : Nat) (x1 x2 : Int32) (D : am_DD) (y : Int32) (Z : am_DD), fn_218_2 n x1 x2 D = some (y, Z) → ay_to 218 2 [some (.ref 321), some (.int x1), some (.int x2)] [] D (.inl none) Z := by
  intro n
  induction n with
  | zero => intro x1 x2 D y Z h; cases h
  | succ n ih =>
    intro x1 x2 D y Z h
    rw [fn_218_2] at h
    refine ay_t_loc (pc := 2) fe_218_2 rfl ?_
    refine ay_t_stk (pc := 3) (S' := [.int 25, .int x2]) fe_218_3 rfl ?_
    by_cases hc1 : 25 ≤ x2
    · rw [if_pos hc1] at h
      refine ay_t_pos (pc := 5) hc1 fe_218_5 rfl ?_
      refine ay_t_loc (pc := 21) fe_218_21 rfl ?_
      refine ay_t_getR (pc := 22) (w := .ref 322) fe_218_22 at_321 (by decide +kernel) rfl ?_
      refine ay_t_stk (pc := 25) (S' := [.int 1, .ref 322]) fe_218_25 rfl ?_
      refine ay_t_ialoadk (pc := 26) (k := 1) fe_218_26 at_322 (by decide) (by decide) (by decide) ?_
      by_cases hc2 : (D 322 1) ≤ 0
      · rw [if_pos hc2] at h
        refine ay_t_pos (pc := 27) hc2 fe_218_27 rfl ?_
        refine ay_t_stk (pc := 37) (S' := [.int 0]) fe_218_37 rfl ?_
        refine ay_t_loc (pc := 38) (L' := [some (.ref 321), some (.int x1), some (.int 0)]) fe_218_38 rfl ?_
        exact ay_t_less (ay_ls (ay_ln (ay_ls ay_l0))) (ev_218_39 _ _ _ _ _ h)
      · rw [if_neg hc2] at h
        refine ay_t_neg (pc := 27) hc2 fe_218_27 rfl ?_
        refine ay_t_loc (pc := 30) fe_218_30 rfl ?_
        refine ay_t_getR (pc := 31) (w := .ref 327) fe_218_31 at_321 (by decide +kernel) rfl ?_
        refine ay_t_stk (pc := 34) (S' := [.int 0, .ref 327]) fe_218_34 rfl ?_
        refine ay_t_loc (pc := 35) fe_218_35 rfl ?_
        refine ay_t_iastorek (pc := 36) (k := 0) fe_218_36 at_327 (by decide) (by decide) ?_
        refine ay_t_stk (pc := 37) (S' := [.int 0]) fe_218_37 rfl ?_
        refine ay_t_loc (pc := 38) (L' := [some (.ref 321), some (.int x1), some (.int 0)]) fe_218_38 rfl ?_
        exact ay_t_less (ay_ls (ay_ln (ay_ls ay_l0))) (ev_218_39 _ _ _ _ _ h)
    · rw [if_neg hc1] at h
      refine ay_t_neg (pc := 5) hc1 fe_218_5 rfl ?_
      refine ay_t_loc (pc := 8) fe_218_8 rfl ?_
      refine ay_t_getR (pc := 9) (w := .ref 327) fe_218_9 at_321 (by decide +kernel) rfl ?_
      refine ay_t_loc (pc := 12) fe_218_12 rfl ?_
      refine ay_t_stk (pc := 13) (S' := [.int 0, .int x2, .ref 327]) fe_218_13 rfl ?_
      by_cases hb3 : x2 < 0 ∨ 25 ≤ x2.toNatClampNeg
      · rw [if_pos hb3] at h; cases h
      rw [if_neg hb3] at h
      refine ay_t_iastore (pc := 14) fe_218_14 at_327 hb3 ?_
      refine ay_t_loc (pc := 15) (L' := [some (.ref 321), some (.int x1), some (.int (x2 + 1))]) fe_218_15 rfl ?_
      refine ay_t_br (pc := 18) (pc' := 2) fe_218_18 rfl ?_
      exact ay_t_less (ay_ls (ay_ls (ay_ls ay_l0))) (ih _ _ _ _ _ h)
def fn_218 (a1 : Int32) (D : am_DD) : Option (Int32 × am_DD) := fn_218_2 am_F a1 0 D
set_option maxHeartbeats 2000000 in
theorem ev_218 {a1 : Int32} {D : am_DD} {y : Int32} {Z : am_DD} (h : fn_218 a1 D = some (y, Z)) : ay_mo 218 [.ref 321, .int a1] D (.inl none) Z := by
  unfold fn_218 at h
  refine ay_m_of (L := [some (.ref 321), some (.int a1), none]) rfl ?_
  refine ay_t_stk (pc := 0) (S' := [.int 0]) fe_218_0 rfl ?_
  refine ay_t_loc (pc := 1) (L' := [some (.ref 321), some (.int a1), some (.int 0)]) fe_218_1 rfl ?_
  exact ay_t_less (ay_ls (ay_ls (ay_ls ay_l0))) (ev_218_2 _ _ _ _ _ _ h)
def fn_219 (a1 a2 a3 : Int32) (D : am_DD) : Option (Int32 × am_DD) := (match fn_46 a2 D with | none => none | some (y1, D2) => (if ¬ y1 = 0 then (match fn_217 a1 D2 with | none => none | some (y5, D6) => (if y5 = 0 then (match fn_29 2 D6 with | none => none | some (y9, D10) => (if ¬ y9 = 0 then (match fn_218 a1 D10 with | none => none | some (y13, D14) => (if a2 < 0 ∨ 25 ≤ a2.toNatClampNeg then none else some ((D14 327 a2.toNatClampNeg), D14))) else some (0, D10))) else (match fn_26 a3 0 1 D6 with | none => none | some (y17, D18) => (if ¬ y17 = 0 then (match fn_29 0 D18 with | none => none | some (y21, D22) => (if ¬ y21 = 0 then (match fn_218 a1 D22 with | none => none | some (y25, D26) => (if a2 < 0 ∨ 25 ≤ a2.toNatClampNeg then none else some ((D26 327 a2.toNatClampNeg), D26))) else some (0, D22))) else (match fn_29 2 D18 with | none => none | some (y29, D30) => (if ¬ y29 = 0 then (match fn_218 a1 D30 with | none => none | some (y33, D34) => (if a2 < 0 ∨ 25 ≤ a2.toNatClampNeg then none else some ((D34 327 a2.toNatClampNeg), D34))) else some (0, D30))))))) else (match fn_29 1 D2 with | none => none | some (y37, D38) => (if ¬ y37 = 0 then (match fn_218 a1 D38 with | none => none | some (y41, D42) => (if a2 < 0 ∨ 25 ≤ a2.toNatClampNeg then none else some ((D42 327 a2.toNatClampNeg), D42))) else some (0, D38)))))
set_option maxHeartbeats 2000000 in
theorem ev_219 {a1 a2 a3 : Int32} {D : am_DD} {y : Int32} {Z : am_DD} (h : fn_219 a1 a2 a3 D = some (y, Z)) : ay_mo 219 [.ref 321, .int a1, .int a2, .int a3] D (.inl (some (.int y))) Z := by
  unfold fn_219 at h
  refine ay_m_of (L := [some (.ref 321), some (.int a1), some (.int a2), some (.int a3)]) rfl ?_
  refine ay_t_loc (pc := 0) fe_219_0 rfl ?_
  refine ay_t_loc (pc := 1) fe_219_1 rfl ?_
  refine ay_t_loc (pc := 2) fe_219_2 rfl ?_
  cases hk3 : fn_46 a2 D with
  | none => rw [hk3] at h; cases h
  | some z =>
    obtain ⟨y1, D2⟩ := z
    rw [hk3] at h
    dsimp only at h
    refine ay_t_call (pc := 3) (w := some (.int y1)) fe_219_3 (ay_args [.ref 321, .int a2] [.ref 321] rfl rfl (Nat.le_of_ble_eq_true rfl) (Nat.le_of_ble_eq_true rfl)) (ay_rcvV at_321 rfl) (ev_46 hk3) ?_
    by_cases hc4 : ¬ y1 = 0
    · rw [if_pos hc4] at h
      refine ay_t_pos (pc := 6) hc4 fe_219_6 rfl ?_
      refine ay_t_loc (pc := 13) fe_219_13 rfl ?_
      cases hk7 : fn_217 a1 D2 with
      | none => rw [hk7] at h; cases h
      | some z =>
        obtain ⟨y5, D6⟩ := z
        rw [hk7] at h
        dsimp only at h
        refine ay_t_call (pc := 14) (w := some (.int y5)) fe_219_14 (ay_args [.int a1] [.ref 321] rfl rfl (Nat.le_of_ble_eq_true rfl) (Nat.le_of_ble_eq_true rfl)) rfl (ev_217 hk7) ?_
        by_cases hc8 : y5 = 0
        · rw [if_pos hc8] at h
          refine ay_t_pos (pc := 17) hc8 fe_219_17 rfl ?_
          refine ay_t_stk (pc := 29) (S' := [.int 2, .ref 321]) fe_219_29 rfl ?_
          refine ay_t_br (pc := 30) (pc' := 34) fe_219_30 rfl ?_
          cases hk11 : fn_29 2 D6 with
          | none => rw [hk11] at h; cases h
          | some z =>
            obtain ⟨y9, D10⟩ := z
            rw [hk11] at h
            dsimp only at h
            refine ay_t_call (pc := 34) (w := some (.int y9)) fe_219_34 (ay_args [.ref 321, .int 2] [] rfl rfl (Nat.le_of_ble_eq_true rfl) (Nat.le_of_ble_eq_true rfl)) (ay_rcvV at_321 rfl) (ev_29 hk11) ?_
            by_cases hc12 : ¬ y9 = 0
            · rw [if_pos hc12] at h
              refine ay_t_pos (pc := 37) hc12 fe_219_37 rfl ?_
              refine ay_t_loc (pc := 42) fe_219_42 rfl ?_
              refine ay_t_loc (pc := 43) fe_219_43 rfl ?_
              cases hk15 : fn_218 a1 D10 with
              | none => rw [hk15] at h; cases h
              | some z =>
                obtain ⟨y13, D14⟩ := z
                rw [hk15] at h
                dsimp only at h
                refine ay_t_call (pc := 44) (w := none) fe_219_44 (ay_args [.ref 321, .int a1] [] rfl rfl (Nat.le_of_ble_eq_true rfl) (Nat.le_of_ble_eq_true rfl)) (ay_rcvV at_321 rfl) (ev_218 hk15) ?_
                refine ay_t_loc (pc := 47) fe_219_47 rfl ?_
                refine ay_t_getR (pc := 48) (w := .ref 327) fe_219_48 at_321 (by decide +kernel) rfl ?_
                refine ay_t_loc (pc := 51) fe_219_51 rfl ?_
                by_cases hb16 : a2 < 0 ∨ 25 ≤ a2.toNatClampNeg
                · rw [if_pos hb16] at h; cases h
                rw [if_neg hb16] at h
                refine ay_t_iaload (pc := 52) fe_219_52 at_327 (by decide) hb16 ?_
                cases h
                exact ay_t_iret fe_219_53 rfl rfl
            · rw [if_neg hc12] at h
              refine ay_t_neg (pc := 37) hc12 fe_219_37 rfl ?_
              refine ay_t_stk (pc := 40) (S' := [.int 0]) fe_219_40 rfl ?_
              cases h
              exact ay_t_iret fe_219_41 rfl rfl
        · rw [if_neg hc8] at h
          refine ay_t_neg (pc := 17) hc8 fe_219_17 rfl ?_
          refine ay_t_loc (pc := 20) fe_219_20 rfl ?_
          refine ay_t_stk (pc := 21) (S' := [.int 0, .int a3, .ref 321]) fe_219_21 rfl ?_
          refine ay_t_stk (pc := 22) (S' := [.int 1, .int 0, .int a3, .ref 321]) fe_219_22 rfl ?_
          cases hk19 : fn_26 a3 0 1 D6 with
          | none => rw [hk19] at h; cases h
          | some z =>
            obtain ⟨y17, D18⟩ := z
            rw [hk19] at h
            dsimp only at h
            refine ay_t_call (pc := 23) (w := some (.int y17)) fe_219_23 (ay_args [.int a3, .int 0, .int 1] [.ref 321] rfl rfl (Nat.le_of_ble_eq_true rfl) (Nat.le_of_ble_eq_true rfl)) rfl (ev_26 hk19) ?_
            by_cases hc20 : ¬ y17 = 0
            · rw [if_pos hc20] at h
              refine ay_t_pos (pc := 26) hc20 fe_219_26 rfl ?_
              refine ay_t_stk (pc := 33) (S' := [.int 0, .ref 321]) fe_219_33 rfl ?_
              cases hk23 : fn_29 0 D18 with
              | none => rw [hk23] at h; cases h
              | some z =>
                obtain ⟨y21, D22⟩ := z
                rw [hk23] at h
                dsimp only at h
                refine ay_t_call (pc := 34) (w := some (.int y21)) fe_219_34 (ay_args [.ref 321, .int 0] [] rfl rfl (Nat.le_of_ble_eq_true rfl) (Nat.le_of_ble_eq_true rfl)) (ay_rcvV at_321 rfl) (ev_29 hk23) ?_
                by_cases hc24 : ¬ y21 = 0
                · rw [if_pos hc24] at h
                  refine ay_t_pos (pc := 37) hc24 fe_219_37 rfl ?_
                  refine ay_t_loc (pc := 42) fe_219_42 rfl ?_
                  refine ay_t_loc (pc := 43) fe_219_43 rfl ?_
                  cases hk27 : fn_218 a1 D22 with
                  | none => rw [hk27] at h; cases h
                  | some z =>
                    obtain ⟨y25, D26⟩ := z
                    rw [hk27] at h
                    dsimp only at h
                    refine ay_t_call (pc := 44) (w := none) fe_219_44 (ay_args [.ref 321, .int a1] [] rfl rfl (Nat.le_of_ble_eq_true rfl) (Nat.le_of_ble_eq_true rfl)) (ay_rcvV at_321 rfl) (ev_218 hk27) ?_
                    refine ay_t_loc (pc := 47) fe_219_47 rfl ?_
                    refine ay_t_getR (pc := 48) (w := .ref 327) fe_219_48 at_321 (by decide +kernel) rfl ?_
                    refine ay_t_loc (pc := 51) fe_219_51 rfl ?_
                    by_cases hb28 : a2 < 0 ∨ 25 ≤ a2.toNatClampNeg
                    · rw [if_pos hb28] at h; cases h
                    rw [if_neg hb28] at h
                    refine ay_t_iaload (pc := 52) fe_219_52 at_327 (by decide) hb28 ?_
                    cases h
                    exact ay_t_iret fe_219_53 rfl rfl
                · rw [if_neg hc24] at h
                  refine ay_t_neg (pc := 37) hc24 fe_219_37 rfl ?_
                  refine ay_t_stk (pc := 40) (S' := [.int 0]) fe_219_40 rfl ?_
                  cases h
                  exact ay_t_iret fe_219_41 rfl rfl
            · rw [if_neg hc20] at h
              refine ay_t_neg (pc := 26) hc20 fe_219_26 rfl ?_
              refine ay_t_stk (pc := 29) (S' := [.int 2, .ref 321]) fe_219_29 rfl ?_
              refine ay_t_br (pc := 30) (pc' := 34) fe_219_30 rfl ?_
              cases hk31 : fn_29 2 D18 with
              | none => rw [hk31] at h; cases h
              | some z =>
                obtain ⟨y29, D30⟩ := z
                rw [hk31] at h
                dsimp only at h
                refine ay_t_call (pc := 34) (w := some (.int y29)) fe_219_34 (ay_args [.ref 321, .int 2] [] rfl rfl (Nat.le_of_ble_eq_true rfl) (Nat.le_of_ble_eq_true rfl)) (ay_rcvV at_321 rfl) (ev_29 hk31) ?_
                by_cases hc32 : ¬ y29 = 0
                · rw [if_pos hc32] at h
                  refine ay_t_pos (pc := 37) hc32 fe_219_37 rfl ?_
                  refine ay_t_loc (pc := 42) fe_219_42 rfl ?_
                  refine ay_t_loc (pc := 43) fe_219_43 rfl ?_
                  cases hk35 : fn_218 a1 D30 with
                  | none => rw [hk35] at h; cases h
                  | some z =>
                    obtain ⟨y33, D34⟩ := z
                    rw [hk35] at h
                    dsimp only at h
                    refine ay_t_call (pc := 44) (w := none) fe_219_44 (ay_args [.ref 321, .int a1] [] rfl rfl (Nat.le_of_ble_eq_true rfl) (Nat.le_of_ble_eq_true rfl)) (ay_rcvV at_321 rfl) (ev_218 hk35) ?_
                    refine ay_t_loc (pc := 47) fe_219_47 rfl ?_
                    refine ay_t_getR (pc := 48) (w := .ref 327) fe_219_48 at_321 (by decide +kernel) rfl ?_
                    refine ay_t_loc (pc := 51) fe_219_51 rfl ?_
                    by_cases hb36 : a2 < 0 ∨ 25 ≤ a2.toNatClampNeg
                    · rw [if_pos hb36] at h; cases h
                    rw [if_neg hb36] at h
                    refine ay_t_iaload (pc := 52) fe_219_52 at_327 (by decide) hb36 ?_
                    cases h
                    exact ay_t_iret fe_219_53 rfl rfl
                · rw [if_neg hc32] at h
                  refine ay_t_neg (pc := 37) hc32 fe_219_37 rfl ?_
                  refine ay_t_stk (pc := 40) (S' := [.int 0]) fe_219_40 rfl ?_
                  cases h
                  exact ay_t_iret fe_219_41 rfl rfl
    · rw [if_neg hc4] at h
      refine ay_t_neg (pc := 6) hc4 fe_219_6 rfl ?_
      refine ay_t_stk (pc := 9) (S' := [.int 1, .ref 321]) fe_219_9 rfl ?_
      refine ay_t_br (pc := 10) (pc' := 34) fe_219_10 rfl ?_
      cases hk39 : fn_29 1 D2 with
      | none => rw [hk39] at h; cases h
      | some z =>
        obtain ⟨y37, D38⟩ := z
        rw [hk39] at h
        dsimp only at h
        refine ay_t_call (pc := 34) (w := some (.int y37)) fe_219_34 (ay_args [.ref 321, .int 1] [] rfl rfl (Nat.le_of_ble_eq_true rfl) (Nat.le_of_ble_eq_true rfl)) (ay_rcvV at_321 rfl) (ev_29 hk39) ?_
        by_cases hc40 : ¬ y37 = 0
        · rw [if_pos hc40] at h
          refine ay_t_pos (pc := 37) hc40 fe_219_37 rfl ?_
          refine ay_t_loc (pc := 42) fe_219_42 rfl ?_
          refine ay_t_loc (pc := 43) fe_219_43 rfl ?_
          cases hk43 : fn_218 a1 D38 with
          | none => rw [hk43] at h; cases h
          | some z =>
            obtain ⟨y41, D42⟩ := z
            rw [hk43] at h
            dsimp only at h
            refine ay_t_call (pc := 44) (w := none) fe_219_44 (ay_args [.ref 321, .int a1] [] rfl rfl (Nat.le_of_ble_eq_true rfl) (Nat.le_of_ble_eq_true rfl)) (ay_rcvV at_321 rfl) (ev_218 hk43) ?_
            refine ay_t_loc (pc := 47) fe_219_47 rfl ?_
            refine ay_t_getR (pc := 48) (w := .ref 327) fe_219_48 at_321 (by decide +kernel) rfl ?_
            refine ay_t_loc (pc := 51) fe_219_51 rfl ?_
            by_cases hb44 : a2 < 0 ∨ 25 ≤ a2.toNatClampNeg
            · rw [if_pos hb44] at h; cases h
            rw [if_neg hb44] at h
            refine ay_t_iaload (pc := 52) fe_219_52 at_327 (by decide) hb44 ?_
            cases h
            exact ay_t_iret fe_219_53 rfl rfl
        · rw [if_neg hc40] at h
          refine ay_t_neg (pc := 37) hc40 fe_219_37 rfl ?_
          refine ay_t_stk (pc := 40) (S' := [.int 0]) fe_219_40 rfl ?_
          cases h
          exact ay_t_iret fe_219_41 rfl rfl
def fn_220 (a1 a2 : Int32) (D : am_DD) : Option (Int32 × am_DD) := (match fn_214 a1 a2 D with | none => none | some (y1, D2) => some ((((rw_at (D 10) 12 a2) + y1) - ((rw_at (D 10) 12 a2) + y1) / 2 * 2), D2))
set_option maxHeartbeats 2000000 in
theorem ev_220 {a1 a2 : Int32} {D : am_DD} {y : Int32} {Z : am_DD} (h : fn_220 a1 a2 D = some (y, Z)) : ay_mo 220 [.ref 33, .int a1, .int a2] D (.inl (some (.int y))) Z := by
  unfold fn_220 at h
  refine ay_m_of (L := [some (.ref 33), some (.int a1), some (.int a2)]) rfl ?_
  refine ay_t_loc (pc := 0) fe_220_0 rfl ?_
  refine ay_t_getR (pc := 1) (w := .ref 8) fe_220_1 at_33 (by decide +kernel) rfl ?_
  refine ay_t_getR (pc := 4) (w := .ref 9) fe_220_4 at_8 (by decide +kernel) rfl ?_
  refine ay_t_loc (pc := 7) fe_220_7 rfl ?_
  refine ay_t_call (pc := 8) (w := some (.int (rw_at (D 10) 12 a2))) fe_220_8 (ay_args [.ref 9, .int a2] [] rfl rfl (Nat.le_of_ble_eq_true rfl) (Nat.le_of_ble_eq_true rfl)) (ay_rcvV at_9 rfl) (mt_at at_9 at_10 (by decide)) ?_
  refine ay_t_loc (pc := 11) fe_220_11 rfl ?_
  refine ay_t_loc (pc := 12) fe_220_12 rfl ?_
  refine ay_t_loc (pc := 13) fe_220_13 rfl ?_
  cases hk3 : fn_214 a1 a2 D with
  | none => rw [hk3] at h; cases h
  | some z =>
    obtain ⟨y1, D2⟩ := z
    rw [hk3] at h
    dsimp only at h
    refine ay_t_call (pc := 14) (w := some (.int y1)) fe_220_14 (ay_args [.ref 33, .int a1, .int a2] [.int (rw_at (D 10) 12 a2)] rfl rfl (Nat.le_of_ble_eq_true rfl) (Nat.le_of_ble_eq_true rfl)) (ay_rcvV at_33 rfl) (ev_214 hk3) ?_
    refine ay_t_stk (pc := 17) (S' := [.int ((rw_at (D 10) 12 a2) + y1)]) fe_220_17 rfl ?_
    refine ay_t_stk (pc := 18) (S' := [.int 2, .int ((rw_at (D 10) 12 a2) + y1)]) fe_220_18 rfl ?_
    refine ay_t_stk (pc := 19) (S' := [.int (((rw_at (D 10) 12 a2) + y1) - ((rw_at (D 10) 12 a2) + y1) / 2 * 2)]) fe_220_19 (ay_irem (by decide)) ?_
    cases h
    exact ay_t_iret fe_220_20 rfl rfl
def fn_221 (a1 a2 : Int32) (D : am_DD) : Option (Int32 × Nat × am_DD) := (match fn_36 a2 D with | none => none | some (y1, D2) => (if ¬ y1 = 0 then (match fn_210 a1 D2 with | none => none | some (y5, D6) => (if ¬ y5 = 0 then (match fn_220 a1 a2 D6 with | none => none | some (y9, D10) => some (y9, 0, D10)) else some (0, 1, D6))) else some (0, 3, D2)))
set_option maxHeartbeats 2000000 in
theorem ev_221 {a1 a2 : Int32} {D : am_DD} {y : Int32} {k : Nat} {Z : am_DD} (h : fn_221 a1 a2 D = some (y, k, Z)) : ay_mo 221 [.ref 0, .int a1, .int a2] D (ay_oc y k) Z := by
  unfold fn_221 at h
  refine ay_m_of (L := [some (.ref 0), some (.int a1), some (.int a2)]) rfl ?_
  refine ay_t_loc (pc := 0) fe_221_0 rfl ?_
  refine ay_t_getR (pc := 1) (w := .ref 1) fe_221_1 at_0 (by decide +kernel) rfl ?_
  refine ay_t_getR (pc := 4) (w := .ref 8) fe_221_4 at_1 (by decide +kernel) rfl ?_
  refine ay_t_loc (pc := 7) fe_221_7 rfl ?_
  cases hk3 : fn_36 a2 D with
  | none => rw [hk3] at h; cases h
  | some z =>
    obtain ⟨y1, D2⟩ := z
    rw [hk3] at h
    dsimp only at h
    refine ay_t_call (pc := 8) (w := some (.int y1)) fe_221_8 (ay_args [.ref 8, .int a2] [] rfl rfl (Nat.le_of_ble_eq_true rfl) (Nat.le_of_ble_eq_true rfl)) (ay_rcvV at_8 rfl) (ev_36 hk3) ?_
    by_cases hc4 : ¬ y1 = 0
    · rw [if_pos hc4] at h
      refine ay_t_pos (pc := 11) hc4 fe_221_11 rfl ?_
      refine ay_t_loc (pc := 24) fe_221_24 rfl ?_
      cases hk7 : fn_210 a1 D2 with
      | none => rw [hk7] at h; cases h
      | some z =>
        obtain ⟨y5, D6⟩ := z
        rw [hk7] at h
        dsimp only at h
        refine ay_t_call (pc := 25) (w := some (.int y5)) fe_221_25 (ay_args [.int a1] [] rfl rfl (Nat.le_of_ble_eq_true rfl) (Nat.le_of_ble_eq_true rfl)) rfl (ev_210 hk7) ?_
        by_cases hc8 : ¬ y5 = 0
        · rw [if_pos hc8] at h
          refine ay_t_pos (pc := 28) hc8 fe_221_28 rfl ?_
          refine ay_t_loc (pc := 42) fe_221_42 rfl ?_
          refine ay_t_getR (pc := 43) (w := .ref 33) fe_221_43 at_0 (by decide +kernel) rfl ?_
          refine ay_t_loc (pc := 46) fe_221_46 rfl ?_
          refine ay_t_loc (pc := 47) fe_221_47 rfl ?_
          cases hk11 : fn_220 a1 a2 D6 with
          | none => rw [hk11] at h; cases h
          | some z =>
            obtain ⟨y9, D10⟩ := z
            rw [hk11] at h
            dsimp only at h
            refine ay_t_call (pc := 48) (w := some (.int y9)) fe_221_48 (ay_args [.ref 33, .int a1, .int a2] [] rfl rfl (Nat.le_of_ble_eq_true rfl) (Nat.le_of_ble_eq_true rfl)) (ay_rcvV at_33 rfl) (ev_220 hk11) ?_
            cases h
            exact ay_t_iret fe_221_51 rfl rfl
        · rw [if_neg hc8] at h
          refine ay_t_neg (pc := 28) hc8 fe_221_28 rfl ?_
          cases h
          exact ay_t_thr fe_221_31 (by decide)
    · rw [if_neg hc4] at h
      refine ay_t_neg (pc := 11) hc4 fe_221_11 rfl ?_
      cases h
      exact ay_t_thr fe_221_14 (by decide)
def fn_223 (a1 a2 : Int32) (D : am_DD) : Option (Int32 × am_DD) := (match fn_44 a2 D with | none => none | some (y1, D2) => (if ¬ y1 = 0 then (match fn_217 a1 D2 with | none => none | some (y5, D6) => (if ¬ y5 = 0 then (match fn_29 0 D6 with | none => none | some (y9, D10) => (if ¬ y9 = 0 then (match fn_218 a1 D10 with | none => none | some (y13, D14) => (match fn_48 a2 0 D14 with | none => none | some (y16, D17) => (if a2 < 0 ∨ 25 ≤ a2.toNatClampNeg then none else some (((y16 + (D17 327 a2.toNatClampNeg)) - (y16 + (D17 327 a2.toNatClampNeg)) / 2 * 2), D17)))) else some (0, D10))) else (match fn_29 2 D6 with | none => none | some (y20, D21) => (if ¬ y20 = 0 then (match fn_218 a1 D21 with | none => none | some (y24, D25) => (match fn_48 a2 0 D25 with | none => none | some (y27, D28) => (if a2 < 0 ∨ 25 ≤ a2.toNatClampNeg then none else some (((y27 + (D28 327 a2.toNatClampNeg)) - (y27 + (D28 327 a2.toNatClampNeg)) / 2 * 2), D28)))) else some (0, D21))))) else (match fn_29 1 D2 with | none => none | some (y31, D32) => (if ¬ y31 = 0 then (match fn_218 a1 D32 with | none => none | some (y35, D36) => (match fn_48 a2 0 D36 with | none => none | some (y38, D39) => (if a2 < 0 ∨ 25 ≤ a2.toNatClampNeg then none else some (((y38 + (D39 327 a2.toNatClampNeg)) - (y38 + (D39 327 a2.toNatClampNeg)) / 2 * 2), D39)))) else some (0, D32)))))
set_option maxHeartbeats 2000000 in
theorem ev_223 {a1 a2 : Int32} {D : am_DD} {y : Int32} {Z : am_DD} (h : fn_223 a1 a2 D = some (y, Z)) : ay_mo 223 [.ref 321, .int a1, .int a2] D (.inl (some (.int y))) Z := by
  unfold fn_223 at h
  refine ay_m_of (L := [some (.ref 321), some (.int a1), some (.int a2)]) rfl ?_
  refine ay_t_loc (pc := 0) fe_223_0 rfl ?_
  refine ay_t_loc (pc := 1) fe_223_1 rfl ?_
  refine ay_t_loc (pc := 2) fe_223_2 rfl ?_
  cases hk3 : fn_44 a2 D with
  | none => rw [hk3] at h; cases h
  | some z =>
    obtain ⟨y1, D2⟩ := z
    rw [hk3] at h
    dsimp only at h
    refine ay_t_call (pc := 3) (w := some (.int y1)) fe_223_3 (ay_args [.ref 321, .int a2] [.ref 321] rfl rfl (Nat.le_of_ble_eq_true rfl) (Nat.le_of_ble_eq_true rfl)) (ay_rcvV at_321 rfl) (ev_44 hk3) ?_
    by_cases hc4 : ¬ y1 = 0
    · rw [if_pos hc4] at h
      refine ay_t_pos (pc := 6) hc4 fe_223_6 rfl ?_
      refine ay_t_loc (pc := 13) fe_223_13 rfl ?_
      cases hk7 : fn_217 a1 D2 with
      | none => rw [hk7] at h; cases h
      | some z =>
        obtain ⟨y5, D6⟩ := z
        rw [hk7] at h
        dsimp only at h
        refine ay_t_call (pc := 14) (w := some (.int y5)) fe_223_14 (ay_args [.int a1] [.ref 321] rfl rfl (Nat.le_of_ble_eq_true rfl) (Nat.le_of_ble_eq_true rfl)) rfl (ev_217 hk7) ?_
        by_cases hc8 : ¬ y5 = 0
        · rw [if_pos hc8] at h
          refine ay_t_pos (pc := 17) hc8 fe_223_17 rfl ?_
          refine ay_t_stk (pc := 24) (S' := [.int 0, .ref 321]) fe_223_24 rfl ?_
          cases hk11 : fn_29 0 D6 with
          | none => rw [hk11] at h; cases h
          | some z =>
            obtain ⟨y9, D10⟩ := z
            rw [hk11] at h
            dsimp only at h
            refine ay_t_call (pc := 25) (w := some (.int y9)) fe_223_25 (ay_args [.ref 321, .int 0] [] rfl rfl (Nat.le_of_ble_eq_true rfl) (Nat.le_of_ble_eq_true rfl)) (ay_rcvV at_321 rfl) (ev_29 hk11) ?_
            by_cases hc12 : ¬ y9 = 0
            · rw [if_pos hc12] at h
              refine ay_t_pos (pc := 28) hc12 fe_223_28 rfl ?_
              refine ay_t_loc (pc := 33) fe_223_33 rfl ?_
              refine ay_t_loc (pc := 34) fe_223_34 rfl ?_
              cases hk15 : fn_218 a1 D10 with
              | none => rw [hk15] at h; cases h
              | some z =>
                obtain ⟨y13, D14⟩ := z
                rw [hk15] at h
                dsimp only at h
                refine ay_t_call (pc := 35) (w := none) fe_223_35 (ay_args [.ref 321, .int a1] [] rfl rfl (Nat.le_of_ble_eq_true rfl) (Nat.le_of_ble_eq_true rfl)) (ay_rcvV at_321 rfl) (ev_218 hk15) ?_
                refine ay_t_loc (pc := 38) fe_223_38 rfl ?_
                refine ay_t_loc (pc := 39) fe_223_39 rfl ?_
                refine ay_t_stk (pc := 40) (S' := [.int 0, .int a2, .ref 321]) fe_223_40 rfl ?_
                cases hk18 : fn_48 a2 0 D14 with
                | none => rw [hk18] at h; cases h
                | some z =>
                  obtain ⟨y16, D17⟩ := z
                  rw [hk18] at h
                  dsimp only at h
                  refine ay_t_call (pc := 41) (w := some (.int y16)) fe_223_41 (ay_args [.ref 321, .int a2, .int 0] [] rfl rfl (Nat.le_of_ble_eq_true rfl) (Nat.le_of_ble_eq_true rfl)) (ay_rcvV at_321 rfl) (ev_48 hk18) ?_
                  refine ay_t_loc (pc := 44) fe_223_44 rfl ?_
                  refine ay_t_getR (pc := 45) (w := .ref 327) fe_223_45 at_321 (by decide +kernel) rfl ?_
                  refine ay_t_loc (pc := 48) fe_223_48 rfl ?_
                  by_cases hb19 : a2 < 0 ∨ 25 ≤ a2.toNatClampNeg
                  · rw [if_pos hb19] at h; cases h
                  rw [if_neg hb19] at h
                  refine ay_t_iaload (pc := 49) fe_223_49 at_327 (by decide) hb19 ?_
                  refine ay_t_stk (pc := 50) (S' := [.int (y16 + (D17 327 a2.toNatClampNeg))]) fe_223_50 rfl ?_
                  refine ay_t_stk (pc := 51) (S' := [.int 2, .int (y16 + (D17 327 a2.toNatClampNeg))]) fe_223_51 rfl ?_
                  refine ay_t_stk (pc := 52) (S' := [.int ((y16 + (D17 327 a2.toNatClampNeg)) - (y16 + (D17 327 a2.toNatClampNeg)) / 2 * 2)]) fe_223_52 (ay_irem (by decide)) ?_
                  cases h
                  exact ay_t_iret fe_223_53 rfl rfl
            · rw [if_neg hc12] at h
              refine ay_t_neg (pc := 28) hc12 fe_223_28 rfl ?_
              refine ay_t_stk (pc := 31) (S' := [.int 0]) fe_223_31 rfl ?_
              cases h
              exact ay_t_iret fe_223_32 rfl rfl
        · rw [if_neg hc8] at h
          refine ay_t_neg (pc := 17) hc8 fe_223_17 rfl ?_
          refine ay_t_stk (pc := 20) (S' := [.int 2, .ref 321]) fe_223_20 rfl ?_
          refine ay_t_br (pc := 21) (pc' := 25) fe_223_21 rfl ?_
          cases hk22 : fn_29 2 D6 with
          | none => rw [hk22] at h; cases h
          | some z =>
            obtain ⟨y20, D21⟩ := z
            rw [hk22] at h
            dsimp only at h
            refine ay_t_call (pc := 25) (w := some (.int y20)) fe_223_25 (ay_args [.ref 321, .int 2] [] rfl rfl (Nat.le_of_ble_eq_true rfl) (Nat.le_of_ble_eq_true rfl)) (ay_rcvV at_321 rfl) (ev_29 hk22) ?_
            by_cases hc23 : ¬ y20 = 0
            · rw [if_pos hc23] at h
              refine ay_t_pos (pc := 28) hc23 fe_223_28 rfl ?_
              refine ay_t_loc (pc := 33) fe_223_33 rfl ?_
              refine ay_t_loc (pc := 34) fe_223_34 rfl ?_
              cases hk26 : fn_218 a1 D21 with
              | none => rw [hk26] at h; cases h
              | some z =>
                obtain ⟨y24, D25⟩ := z
                rw [hk26] at h
                dsimp only at h
                refine ay_t_call (pc := 35) (w := none) fe_223_35 (ay_args [.ref 321, .int a1] [] rfl rfl (Nat.le_of_ble_eq_true rfl) (Nat.le_of_ble_eq_true rfl)) (ay_rcvV at_321 rfl) (ev_218 hk26) ?_
                refine ay_t_loc (pc := 38) fe_223_38 rfl ?_
                refine ay_t_loc (pc := 39) fe_223_39 rfl ?_
                refine ay_t_stk (pc := 40) (S' := [.int 0, .int a2, .ref 321]) fe_223_40 rfl ?_
                cases hk29 : fn_48 a2 0 D25 with
                | none => rw [hk29] at h; cases h
                | some z =>
                  obtain ⟨y27, D28⟩ := z
                  rw [hk29] at h
                  dsimp only at h
                  refine ay_t_call (pc := 41) (w := some (.int y27)) fe_223_41 (ay_args [.ref 321, .int a2, .int 0] [] rfl rfl (Nat.le_of_ble_eq_true rfl) (Nat.le_of_ble_eq_true rfl)) (ay_rcvV at_321 rfl) (ev_48 hk29) ?_
                  refine ay_t_loc (pc := 44) fe_223_44 rfl ?_
                  refine ay_t_getR (pc := 45) (w := .ref 327) fe_223_45 at_321 (by decide +kernel) rfl ?_
                  refine ay_t_loc (pc := 48) fe_223_48 rfl ?_
                  by_cases hb30 : a2 < 0 ∨ 25 ≤ a2.toNatClampNeg
                  · rw [if_pos hb30] at h; cases h
                  rw [if_neg hb30] at h
                  refine ay_t_iaload (pc := 49) fe_223_49 at_327 (by decide) hb30 ?_
                  refine ay_t_stk (pc := 50) (S' := [.int (y27 + (D28 327 a2.toNatClampNeg))]) fe_223_50 rfl ?_
                  refine ay_t_stk (pc := 51) (S' := [.int 2, .int (y27 + (D28 327 a2.toNatClampNeg))]) fe_223_51 rfl ?_
                  refine ay_t_stk (pc := 52) (S' := [.int ((y27 + (D28 327 a2.toNatClampNeg)) - (y27 + (D28 327 a2.toNatClampNeg)) / 2 * 2)]) fe_223_52 (ay_irem (by decide)) ?_
                  cases h
                  exact ay_t_iret fe_223_53 rfl rfl
            · rw [if_neg hc23] at h
              refine ay_t_neg (pc := 28) hc23 fe_223_28 rfl ?_
              refine ay_t_stk (pc := 31) (S' := [.int 0]) fe_223_31 rfl ?_
              cases h
              exact ay_t_iret fe_223_32 rfl rfl
    · rw [if_neg hc4] at h
      refine ay_t_neg (pc := 6) hc4 fe_223_6 rfl ?_
      refine ay_t_stk (pc := 9) (S' := [.int 1, .ref 321]) fe_223_9 rfl ?_
      refine ay_t_br (pc := 10) (pc' := 25) fe_223_10 rfl ?_
      cases hk33 : fn_29 1 D2 with
      | none => rw [hk33] at h; cases h
      | some z =>
        obtain ⟨y31, D32⟩ := z
        rw [hk33] at h
        dsimp only at h
        refine ay_t_call (pc := 25) (w := some (.int y31)) fe_223_25 (ay_args [.ref 321, .int 1] [] rfl rfl (Nat.le_of_ble_eq_true rfl) (Nat.le_of_ble_eq_true rfl)) (ay_rcvV at_321 rfl) (ev_29 hk33) ?_
        by_cases hc34 : ¬ y31 = 0
        · rw [if_pos hc34] at h
          refine ay_t_pos (pc := 28) hc34 fe_223_28 rfl ?_
          refine ay_t_loc (pc := 33) fe_223_33 rfl ?_
          refine ay_t_loc (pc := 34) fe_223_34 rfl ?_
          cases hk37 : fn_218 a1 D32 with
          | none => rw [hk37] at h; cases h
          | some z =>
            obtain ⟨y35, D36⟩ := z
            rw [hk37] at h
            dsimp only at h
            refine ay_t_call (pc := 35) (w := none) fe_223_35 (ay_args [.ref 321, .int a1] [] rfl rfl (Nat.le_of_ble_eq_true rfl) (Nat.le_of_ble_eq_true rfl)) (ay_rcvV at_321 rfl) (ev_218 hk37) ?_
            refine ay_t_loc (pc := 38) fe_223_38 rfl ?_
            refine ay_t_loc (pc := 39) fe_223_39 rfl ?_
            refine ay_t_stk (pc := 40) (S' := [.int 0, .int a2, .ref 321]) fe_223_40 rfl ?_
            cases hk40 : fn_48 a2 0 D36 with
            | none => rw [hk40] at h; cases h
            | some z =>
              obtain ⟨y38, D39⟩ := z
              rw [hk40] at h
              dsimp only at h
              refine ay_t_call (pc := 41) (w := some (.int y38)) fe_223_41 (ay_args [.ref 321, .int a2, .int 0] [] rfl rfl (Nat.le_of_ble_eq_true rfl) (Nat.le_of_ble_eq_true rfl)) (ay_rcvV at_321 rfl) (ev_48 hk40) ?_
              refine ay_t_loc (pc := 44) fe_223_44 rfl ?_
              refine ay_t_getR (pc := 45) (w := .ref 327) fe_223_45 at_321 (by decide +kernel) rfl ?_
              refine ay_t_loc (pc := 48) fe_223_48 rfl ?_
              by_cases hb41 : a2 < 0 ∨ 25 ≤ a2.toNatClampNeg
              · rw [if_pos hb41] at h; cases h
              rw [if_neg hb41] at h
              refine ay_t_iaload (pc := 49) fe_223_49 at_327 (by decide) hb41 ?_
              refine ay_t_stk (pc := 50) (S' := [.int (y38 + (D39 327 a2.toNatClampNeg))]) fe_223_50 rfl ?_
              refine ay_t_stk (pc := 51) (S' := [.int 2, .int (y38 + (D39 327 a2.toNatClampNeg))]) fe_223_51 rfl ?_
              refine ay_t_stk (pc := 52) (S' := [.int ((y38 + (D39 327 a2.toNatClampNeg)) - (y38 + (D39 327 a2.toNatClampNeg)) / 2 * 2)]) fe_223_52 (ay_irem (by decide)) ?_
              cases h
              exact ay_t_iret fe_223_53 rfl rfl
        · rw [if_neg hc34] at h
          refine ay_t_neg (pc := 28) hc34 fe_223_28 rfl ?_
          refine ay_t_stk (pc := 31) (S' := [.int 0]) fe_223_31 rfl ?_
          cases h
          exact ay_t_iret fe_223_32 rfl rfl
def fn_224_19 : Nat → Int32 → Int32 → am_DD → Option (Int32 × am_DD)
  | 0, _, _, _ => none
  | n + 1, x1, x2, D => (if x1 ≤ x2 then (match fn_212 D with | none => none | some (y9, D10) => some (y9, D10)) else (match fn_212 D with | none => none | some (y12, D13) => fn_224_19 n x1 (x2 + 1) D13))
set_option maxHeartbeats 2000000 in
theorem ev_224_19 : ∀ (n : Nat) (x1 x2 : Int32) (D : am_DD) (y : Int32) (Z : am_DD), fn_224_19 n x1 x2 D = some (y, Z) → ay_to 224 19 [some (.ref 33), some (.int x1), some (.int x2)] [] D (.inl (some (.int y))) Z := by
  intro n
  induction n with
  | zero => intro x1 x2 D y Z h; cases h
  | succ n ih =>
    intro x1 x2 D y Z h
    rw [fn_224_19] at h
    refine ay_t_loc (pc := 19) fe_224_19 rfl ?_
    refine ay_t_loc (pc := 20) fe_224_20 rfl ?_
    by_cases hc8 : x1 ≤ x2
    · rw [if_pos hc8] at h
      refine ay_t_pos (pc := 21) hc8 fe_224_21 rfl ?_
      refine ay_t_loc (pc := 35) fe_224_35 rfl ?_
      cases hk11 : fn_212 D with
      | none => rw [hk11] at h; cases h
      | some z =>
        obtain ⟨y9, D10⟩ := z
        rw [hk11] at h
        dsimp only at h
        refine ay_t_call (pc := 36) (w := some (.int y9)) fe_224_36 (ay_args [.ref 33] [] rfl rfl (Nat.le_of_ble_eq_true rfl) (Nat.le_of_ble_eq_true rfl)) (ay_rcvV at_33 rfl) (ev_212 hk11) ?_
        cases h
        exact ay_t_iret fe_224_39 rfl rfl
    · rw [if_neg hc8] at h
      refine ay_t_neg (pc := 21) hc8 fe_224_21 rfl ?_
      refine ay_t_loc (pc := 24) fe_224_24 rfl ?_
      cases hk14 : fn_212 D with
      | none => rw [hk14] at h; cases h
      | some z =>
        obtain ⟨y12, D13⟩ := z
        rw [hk14] at h
        dsimp only at h
        refine ay_t_call (pc := 25) (w := some (.int y12)) fe_224_25 (ay_args [.ref 33] [] rfl rfl (Nat.le_of_ble_eq_true rfl) (Nat.le_of_ble_eq_true rfl)) (ay_rcvV at_33 rfl) (ev_212 hk14) ?_
        refine ay_t_stk (pc := 28) (S' := []) fe_224_28 rfl ?_
        refine ay_t_loc (pc := 29) (L' := [some (.ref 33), some (.int x1), some (.int (x2 + 1))]) fe_224_29 rfl ?_
        refine ay_t_br (pc := 32) (pc' := 19) fe_224_32 rfl ?_
        exact ay_t_less (ay_ls (ay_ls (ay_ls ay_l0))) (ih _ _ _ _ _ h)
