/-! methods as functions, with what am_run does (written by wip/p32/gen6.py) -/
def fn_59 (a1 a2 a3 : Int32) (D : am_DD) : Option (Int32 × Nat × am_DD) := (match fn_55 a2 D with | none => none | some (y1, D2) => (if ¬ y1 = 0 then (match fn_56 a1 D2 with | none => none | some (y5, D6) => (if y5 = 0 then some (0, 1, D6) else (if a3 = 0 then (if ¬ a3 = 0 then (match fn_58 a1 a2 D6 with | none => none | some (y11, D12) => some (y11, 0, D12)) else (match fn_57 a1 a2 D6 with | none => none | some (y14, D15) => some (y14, 0, D15))) else (if a3 = 1 then (if ¬ a3 = 0 then (match fn_58 a1 a2 D6 with | none => none | some (y19, D20) => some (y19, 0, D20)) else (match fn_57 a1 a2 D6 with | none => none | some (y22, D23) => some (y22, 0, D23))) else some (0, 1, D6))))) else some (0, 3, D2)))
set_option maxHeartbeats 2000000 in
theorem ev_59 {a1 a2 a3 : Int32} {D : am_DD} {y : Int32} {k : Nat} {Z : am_DD} (h : fn_59 a1 a2 a3 D = some (y, k, Z)) : ay_mo 59 [.ref 0, .int a1, .int a2, .int a3] D (ay_oc y k) Z := by
  unfold fn_59 at h
  refine ay_m_of (L := [some (.ref 0), some (.int a1), some (.int a2), some (.int a3)]) rfl ?_
  refine ay_t_loc (pc := 0) fe_59_0 rfl ?_
  refine ay_t_getR (pc := 1) (w := .ref 1) fe_59_1 at_0 (by decide +kernel) rfl ?_
  refine ay_t_getR (pc := 4) (w := .ref 8) fe_59_4 at_1 (by decide +kernel) rfl ?_
  refine ay_t_loc (pc := 7) fe_59_7 rfl ?_
  cases hk3 : fn_55 a2 D with
  | none => rw [hk3] at h; cases h
  | some z =>
    obtain ⟨y1, D2⟩ := z
    rw [hk3] at h
    dsimp only at h
    refine ay_t_call (pc := 8) (w := some (.int y1)) fe_59_8 (ay_args [.ref 8, .int a2] [] rfl rfl (Nat.le_of_ble_eq_true rfl) (Nat.le_of_ble_eq_true rfl)) (ay_rcvV at_8 rfl) (ev_55 hk3) ?_
    by_cases hc4 : ¬ y1 = 0
    · rw [if_pos hc4] at h
      refine ay_t_pos (pc := 11) hc4 fe_59_11 rfl ?_
      refine ay_t_loc (pc := 25) fe_59_25 rfl ?_
      cases hk7 : fn_56 a1 D2 with
      | none => rw [hk7] at h; cases h
      | some z =>
        obtain ⟨y5, D6⟩ := z
        rw [hk7] at h
        dsimp only at h
        refine ay_t_call (pc := 26) (w := some (.int y5)) fe_59_26 (ay_args [.int a1] [] rfl rfl (Nat.le_of_ble_eq_true rfl) (Nat.le_of_ble_eq_true rfl)) rfl (ev_56 hk7) ?_
        by_cases hc8 : y5 = 0
        · rw [if_pos hc8] at h
          refine ay_t_pos (pc := 29) hc8 fe_59_29 rfl ?_
          cases h
          exact ay_t_thr fe_59_41 (by decide)
        · rw [if_neg hc8] at h
          refine ay_t_neg (pc := 29) hc8 fe_59_29 rfl ?_
          refine ay_t_loc (pc := 32) fe_59_32 rfl ?_
          by_cases hc9 : a3 = 0
          · rw [if_pos hc9] at h
            refine ay_t_pos (pc := 33) hc9 fe_59_33 rfl ?_
            refine ay_t_loc (pc := 52) fe_59_52 rfl ?_
            by_cases hc10 : ¬ a3 = 0
            · rw [if_pos hc10] at h
              refine ay_t_pos (pc := 53) hc10 fe_59_53 rfl ?_
              refine ay_t_loc (pc := 68) fe_59_68 rfl ?_
              refine ay_t_getR (pc := 69) (w := .ref 33) fe_59_69 at_0 (by decide +kernel) rfl ?_
              refine ay_t_loc (pc := 72) fe_59_72 rfl ?_
              refine ay_t_loc (pc := 73) fe_59_73 rfl ?_
              cases hk13 : fn_58 a1 a2 D6 with
              | none => rw [hk13] at h; cases h
              | some z =>
                obtain ⟨y11, D12⟩ := z
                rw [hk13] at h
                dsimp only at h
                refine ay_t_call (pc := 74) (w := some (.int y11)) fe_59_74 (ay_args [.ref 33, .int a1, .int a2] [] rfl rfl (Nat.le_of_ble_eq_true rfl) (Nat.le_of_ble_eq_true rfl)) (ay_rcvV at_33 rfl) (ev_58 hk13) ?_
                cases h
                exact ay_t_iret fe_59_77 rfl rfl
            · rw [if_neg hc10] at h
              refine ay_t_neg (pc := 53) hc10 fe_59_53 rfl ?_
              refine ay_t_loc (pc := 56) fe_59_56 rfl ?_
              refine ay_t_getR (pc := 57) (w := .ref 33) fe_59_57 at_0 (by decide +kernel) rfl ?_
              refine ay_t_loc (pc := 60) fe_59_60 rfl ?_
              refine ay_t_loc (pc := 61) fe_59_61 rfl ?_
              cases hk16 : fn_57 a1 a2 D6 with
              | none => rw [hk16] at h; cases h
              | some z =>
                obtain ⟨y14, D15⟩ := z
                rw [hk16] at h
                dsimp only at h
                refine ay_t_call (pc := 62) (w := some (.int y14)) fe_59_62 (ay_args [.ref 33, .int a1, .int a2] [] rfl rfl (Nat.le_of_ble_eq_true rfl) (Nat.le_of_ble_eq_true rfl)) (ay_rcvV at_33 rfl) (ev_57 hk16) ?_
                refine ay_t_br (pc := 65) (pc' := 77) fe_59_65 rfl ?_
                cases h
                exact ay_t_iret fe_59_77 rfl rfl
          · rw [if_neg hc9] at h
            refine ay_t_neg (pc := 33) hc9 fe_59_33 rfl ?_
            refine ay_t_loc (pc := 36) fe_59_36 rfl ?_
            refine ay_t_stk (pc := 37) (S' := [.int 1, .int a3]) fe_59_37 rfl ?_
            by_cases hc17 : a3 = 1
            · rw [if_pos hc17] at h
              refine ay_t_pos (pc := 38) hc17 fe_59_38 rfl ?_
              refine ay_t_loc (pc := 52) fe_59_52 rfl ?_
              by_cases hc18 : ¬ a3 = 0
              · rw [if_pos hc18] at h
                refine ay_t_pos (pc := 53) hc18 fe_59_53 rfl ?_
                refine ay_t_loc (pc := 68) fe_59_68 rfl ?_
                refine ay_t_getR (pc := 69) (w := .ref 33) fe_59_69 at_0 (by decide +kernel) rfl ?_
                refine ay_t_loc (pc := 72) fe_59_72 rfl ?_
                refine ay_t_loc (pc := 73) fe_59_73 rfl ?_
                cases hk21 : fn_58 a1 a2 D6 with
                | none => rw [hk21] at h; cases h
                | some z =>
                  obtain ⟨y19, D20⟩ := z
                  rw [hk21] at h
                  dsimp only at h
                  refine ay_t_call (pc := 74) (w := some (.int y19)) fe_59_74 (ay_args [.ref 33, .int a1, .int a2] [] rfl rfl (Nat.le_of_ble_eq_true rfl) (Nat.le_of_ble_eq_true rfl)) (ay_rcvV at_33 rfl) (ev_58 hk21) ?_
                  cases h
                  exact ay_t_iret fe_59_77 rfl rfl
              · rw [if_neg hc18] at h
                refine ay_t_neg (pc := 53) hc18 fe_59_53 rfl ?_
                refine ay_t_loc (pc := 56) fe_59_56 rfl ?_
                refine ay_t_getR (pc := 57) (w := .ref 33) fe_59_57 at_0 (by decide +kernel) rfl ?_
                refine ay_t_loc (pc := 60) fe_59_60 rfl ?_
                refine ay_t_loc (pc := 61) fe_59_61 rfl ?_
                cases hk24 : fn_57 a1 a2 D6 with
                | none => rw [hk24] at h; cases h
                | some z =>
                  obtain ⟨y22, D23⟩ := z
                  rw [hk24] at h
                  dsimp only at h
                  refine ay_t_call (pc := 62) (w := some (.int y22)) fe_59_62 (ay_args [.ref 33, .int a1, .int a2] [] rfl rfl (Nat.le_of_ble_eq_true rfl) (Nat.le_of_ble_eq_true rfl)) (ay_rcvV at_33 rfl) (ev_57 hk24) ?_
                  refine ay_t_br (pc := 65) (pc' := 77) fe_59_65 rfl ?_
                  cases h
                  exact ay_t_iret fe_59_77 rfl rfl
            · rw [if_neg hc17] at h
              refine ay_t_neg (pc := 38) hc17 fe_59_38 rfl ?_
              cases h
              exact ay_t_thr fe_59_41 (by decide)
    · rw [if_neg hc4] at h
      refine ay_t_neg (pc := 11) hc4 fe_59_11 rfl ?_
      cases h
      exact ay_t_thr fe_59_14 (by decide)
def fn_60 (a1 a2 : Int32) (D : am_DD) : Option (Int32 × am_DD) := (match fn_58 a1 a2 D with | none => none | some (y1, D2) => some ((((rw_at (D 10) 12 a2) + y1) - ((rw_at (D 10) 12 a2) + y1) / 2 * 2), D2))
set_option maxHeartbeats 2000000 in
theorem ev_60 {a1 a2 : Int32} {D : am_DD} {y : Int32} {Z : am_DD} (h : fn_60 a1 a2 D = some (y, Z)) : ay_mo 60 [.ref 33, .int a1, .int a2] D (.inl (some (.int y))) Z := by
  unfold fn_60 at h
  refine ay_m_of (L := [some (.ref 33), some (.int a1), some (.int a2)]) rfl ?_
  refine ay_t_loc (pc := 0) fe_60_0 rfl ?_
  refine ay_t_getR (pc := 1) (w := .ref 8) fe_60_1 at_33 (by decide +kernel) rfl ?_
  refine ay_t_getR (pc := 4) (w := .ref 9) fe_60_4 at_8 (by decide +kernel) rfl ?_
  refine ay_t_loc (pc := 7) fe_60_7 rfl ?_
  refine ay_t_call (pc := 8) (w := some (.int (rw_at (D 10) 12 a2))) fe_60_8 (ay_args [.ref 9, .int a2] [] rfl rfl (Nat.le_of_ble_eq_true rfl) (Nat.le_of_ble_eq_true rfl)) (ay_rcvV at_9 rfl) (mt_at at_9 at_10 (by decide)) ?_
  refine ay_t_loc (pc := 11) fe_60_11 rfl ?_
  refine ay_t_loc (pc := 12) fe_60_12 rfl ?_
  refine ay_t_loc (pc := 13) fe_60_13 rfl ?_
  cases hk3 : fn_58 a1 a2 D with
  | none => rw [hk3] at h; cases h
  | some z =>
    obtain ⟨y1, D2⟩ := z
    rw [hk3] at h
    dsimp only at h
    refine ay_t_call (pc := 14) (w := some (.int y1)) fe_60_14 (ay_args [.ref 33, .int a1, .int a2] [.int (rw_at (D 10) 12 a2)] rfl rfl (Nat.le_of_ble_eq_true rfl) (Nat.le_of_ble_eq_true rfl)) (ay_rcvV at_33 rfl) (ev_58 hk3) ?_
    refine ay_t_stk (pc := 17) (S' := [.int ((rw_at (D 10) 12 a2) + y1)]) fe_60_17 rfl ?_
    refine ay_t_stk (pc := 18) (S' := [.int 2, .int ((rw_at (D 10) 12 a2) + y1)]) fe_60_18 rfl ?_
    refine ay_t_stk (pc := 19) (S' := [.int (((rw_at (D 10) 12 a2) + y1) - ((rw_at (D 10) 12 a2) + y1) / 2 * 2)]) fe_60_19 (ay_irem (by decide)) ?_
    cases h
    exact ay_t_iret fe_60_20 rfl rfl
def fn_61 (a1 a2 : Int32) (D : am_DD) : Option (Int32 × Nat × am_DD) := (match fn_34 a2 D with | none => none | some (y1, D2) => (if ¬ y1 = 0 then (match fn_56 a1 D2 with | none => none | some (y5, D6) => (if ¬ y5 = 0 then (match fn_60 a1 a2 D6 with | none => none | some (y9, D10) => some (y9, 0, D10)) else some (0, 1, D6))) else some (0, 3, D2)))
set_option maxHeartbeats 2000000 in
theorem ev_61 {a1 a2 : Int32} {D : am_DD} {y : Int32} {k : Nat} {Z : am_DD} (h : fn_61 a1 a2 D = some (y, k, Z)) : ay_mo 61 [.ref 0, .int a1, .int a2] D (ay_oc y k) Z := by
  unfold fn_61 at h
  refine ay_m_of (L := [some (.ref 0), some (.int a1), some (.int a2)]) rfl ?_
  refine ay_t_loc (pc := 0) fe_61_0 rfl ?_
  refine ay_t_getR (pc := 1) (w := .ref 1) fe_61_1 at_0 (by decide +kernel) rfl ?_
  refine ay_t_getR (pc := 4) (w := .ref 8) fe_61_4 at_1 (by decide +kernel) rfl ?_
  refine ay_t_loc (pc := 7) fe_61_7 rfl ?_
  cases hk3 : fn_34 a2 D with
  | none => rw [hk3] at h; cases h
  | some z =>
    obtain ⟨y1, D2⟩ := z
    rw [hk3] at h
    dsimp only at h
    refine ay_t_call (pc := 8) (w := some (.int y1)) fe_61_8 (ay_args [.ref 8, .int a2] [] rfl rfl (Nat.le_of_ble_eq_true rfl) (Nat.le_of_ble_eq_true rfl)) (ay_rcvV at_8 rfl) (ev_34 hk3) ?_
    by_cases hc4 : ¬ y1 = 0
    · rw [if_pos hc4] at h
      refine ay_t_pos (pc := 11) hc4 fe_61_11 rfl ?_
      refine ay_t_loc (pc := 24) fe_61_24 rfl ?_
      cases hk7 : fn_56 a1 D2 with
      | none => rw [hk7] at h; cases h
      | some z =>
        obtain ⟨y5, D6⟩ := z
        rw [hk7] at h
        dsimp only at h
        refine ay_t_call (pc := 25) (w := some (.int y5)) fe_61_25 (ay_args [.int a1] [] rfl rfl (Nat.le_of_ble_eq_true rfl) (Nat.le_of_ble_eq_true rfl)) rfl (ev_56 hk7) ?_
        by_cases hc8 : ¬ y5 = 0
        · rw [if_pos hc8] at h
          refine ay_t_pos (pc := 28) hc8 fe_61_28 rfl ?_
          refine ay_t_loc (pc := 42) fe_61_42 rfl ?_
          refine ay_t_getR (pc := 43) (w := .ref 33) fe_61_43 at_0 (by decide +kernel) rfl ?_
          refine ay_t_loc (pc := 46) fe_61_46 rfl ?_
          refine ay_t_loc (pc := 47) fe_61_47 rfl ?_
          cases hk11 : fn_60 a1 a2 D6 with
          | none => rw [hk11] at h; cases h
          | some z =>
            obtain ⟨y9, D10⟩ := z
            rw [hk11] at h
            dsimp only at h
            refine ay_t_call (pc := 48) (w := some (.int y9)) fe_61_48 (ay_args [.ref 33, .int a1, .int a2] [] rfl rfl (Nat.le_of_ble_eq_true rfl) (Nat.le_of_ble_eq_true rfl)) (ay_rcvV at_33 rfl) (ev_60 hk11) ?_
            cases h
            exact ay_t_iret fe_61_51 rfl rfl
        · rw [if_neg hc8] at h
          refine ay_t_neg (pc := 28) hc8 fe_61_28 rfl ?_
          cases h
          exact ay_t_thr fe_61_31 (by decide)
    · rw [if_neg hc4] at h
      refine ay_t_neg (pc := 11) hc4 fe_61_11 rfl ?_
      cases h
      exact ay_t_thr fe_61_14 (by decide)
def fn_62_19 : Nat → Int32 → Int32 → am_DD → Option (Int32 × am_DD)
  | 0, _, _, _ => none
  | n + 1, x1, x2, D => (if x1 ≤ x2 then (match fn_51 D with | none => none | some (y9, D10) => some (y9, D10)) else (match fn_51 D with | none => none | some (y12, D13) => fn_62_19 n x1 (x2 + 1) D13))
set_option maxHeartbeats 2000000 in
theorem ev_62_19 : ∀ (n : Nat) (x1 x2 : Int32) (D : am_DD) (y : Int32) (Z : am_DD), fn_62_19 n x1 x2 D = some (y, Z) → ay_to 62 19 [some (.ref 33), some (.int x1), some (.int x2)] [] D (.inl (some (.int y))) Z := by
  intro n
  induction n with
  | zero => intro x1 x2 D y Z h; cases h
  | succ n ih =>
    intro x1 x2 D y Z h
    rw [fn_62_19] at h
    refine ay_t_loc (pc := 19) fe_62_19 rfl ?_
    refine ay_t_loc (pc := 20) fe_62_20 rfl ?_
    by_cases hc8 : x1 ≤ x2
    · rw [if_pos hc8] at h
      refine ay_t_pos (pc := 21) hc8 fe_62_21 rfl ?_
      refine ay_t_loc (pc := 35) fe_62_35 rfl ?_
      cases hk11 : fn_51 D with
      | none => rw [hk11] at h; cases h
      | some z =>
        obtain ⟨y9, D10⟩ := z
        rw [hk11] at h
        dsimp only at h
        refine ay_t_call (pc := 36) (w := some (.int y9)) fe_62_36 (ay_args [.ref 33] [] rfl rfl (Nat.le_of_ble_eq_true rfl) (Nat.le_of_ble_eq_true rfl)) (ay_rcvV at_33 rfl) (ev_51 hk11) ?_
        cases h
        exact ay_t_iret fe_62_39 rfl rfl
    · rw [if_neg hc8] at h
      refine ay_t_neg (pc := 21) hc8 fe_62_21 rfl ?_
      refine ay_t_loc (pc := 24) fe_62_24 rfl ?_
      cases hk14 : fn_51 D with
      | none => rw [hk14] at h; cases h
      | some z =>
        obtain ⟨y12, D13⟩ := z
        rw [hk14] at h
        dsimp only at h
        refine ay_t_call (pc := 25) (w := some (.int y12)) fe_62_25 (ay_args [.ref 33] [] rfl rfl (Nat.le_of_ble_eq_true rfl) (Nat.le_of_ble_eq_true rfl)) (ay_rcvV at_33 rfl) (ev_51 hk14) ?_
        refine ay_t_stk (pc := 28) (S' := []) fe_62_28 rfl ?_
        refine ay_t_loc (pc := 29) (L' := [some (.ref 33), some (.int x1), some (.int (x2 + 1))]) fe_62_29 rfl ?_
        refine ay_t_br (pc := 32) (pc' := 19) fe_62_32 rfl ?_
        exact ay_t_less (ay_ls (ay_ls (ay_ls ay_l0))) (ih _ _ _ _ _ h)
def fn_62 (a1 : Int32) (D : am_DD) : Option (Int32 × am_DD) := (match fn_34 0 D with | none => none | some (y1, D2) => (if ¬ y1 = 0 then (match fn_50 D2 with | none => none | some (y5, D6) => fn_62_19 am_F a1 0 D6) else some ((-1), D2)))
set_option maxHeartbeats 2000000 in
theorem ev_62 {a1 : Int32} {D : am_DD} {y : Int32} {Z : am_DD} (h : fn_62 a1 D = some (y, Z)) : ay_mo 62 [.ref 33, .int a1] D (.inl (some (.int y))) Z := by
  unfold fn_62 at h
  refine ay_m_of (L := [some (.ref 33), some (.int a1), none]) rfl ?_
  refine ay_t_loc (pc := 0) fe_62_0 rfl ?_
  refine ay_t_getR (pc := 1) (w := .ref 8) fe_62_1 at_33 (by decide +kernel) rfl ?_
  refine ay_t_stk (pc := 4) (S' := [.int 0, .ref 8]) fe_62_4 rfl ?_
  cases hk3 : fn_34 0 D with
  | none => rw [hk3] at h; cases h
  | some z =>
    obtain ⟨y1, D2⟩ := z
    rw [hk3] at h
    dsimp only at h
    refine ay_t_call (pc := 5) (w := some (.int y1)) fe_62_5 (ay_args [.ref 8, .int 0] [] rfl rfl (Nat.le_of_ble_eq_true rfl) (Nat.le_of_ble_eq_true rfl)) (ay_rcvV at_8 rfl) (ev_34 hk3) ?_
    by_cases hc4 : ¬ y1 = 0
    · rw [if_pos hc4] at h
      refine ay_t_pos (pc := 8) hc4 fe_62_8 rfl ?_
      refine ay_t_loc (pc := 13) fe_62_13 rfl ?_
      cases hk7 : fn_50 D2 with
      | none => rw [hk7] at h; cases h
      | some z =>
        obtain ⟨y5, D6⟩ := z
        rw [hk7] at h
        dsimp only at h
        refine ay_t_call (pc := 14) (w := none) fe_62_14 (ay_args [.ref 33] [] rfl rfl (Nat.le_of_ble_eq_true rfl) (Nat.le_of_ble_eq_true rfl)) (ay_rcvV at_33 rfl) (ev_50 hk7) ?_
        refine ay_t_stk (pc := 17) (S' := [.int 0]) fe_62_17 rfl ?_
        refine ay_t_loc (pc := 18) (L' := [some (.ref 33), some (.int a1), some (.int 0)]) fe_62_18 rfl ?_
        exact ay_t_less (ay_ls (ay_ls (ay_ls ay_l0))) (ev_62_19 _ _ _ _ _ _ h)
    · rw [if_neg hc4] at h
      refine ay_t_neg (pc := 8) hc4 fe_62_8 rfl ?_
      refine ay_t_stk (pc := 11) (S' := [.int (-1)]) fe_62_11 rfl ?_
      cases h
      exact ay_t_iret fe_62_12 rfl rfl
def fn_63 (a1 : Int32) (D : am_DD) : Option (Int32 × Nat × am_DD) := (if a1 < 0 then some (0, 1, D) else (if a1 < 1000 then (match fn_62 a1 D with | none => none | some (y3, D4) => some (y3, 0, D4)) else some (0, 1, D)))
set_option maxHeartbeats 2000000 in
theorem ev_63 {a1 : Int32} {D : am_DD} {y : Int32} {k : Nat} {Z : am_DD} (h : fn_63 a1 D = some (y, k, Z)) : ay_mo 63 [.ref 0, .int a1] D (ay_oc y k) Z := by
  unfold fn_63 at h
  refine ay_m_of (L := [some (.ref 0), some (.int a1)]) rfl ?_
  refine ay_t_loc (pc := 0) fe_63_0 rfl ?_
  by_cases hc1 : a1 < 0
  · rw [if_pos hc1] at h
    refine ay_t_pos (pc := 1) hc1 fe_63_1 rfl ?_
    cases h
    exact ay_t_thr fe_63_11 (by decide)
  · rw [if_neg hc1] at h
    refine ay_t_neg (pc := 1) hc1 fe_63_1 rfl ?_
    refine ay_t_loc (pc := 4) fe_63_4 rfl ?_
    refine ay_t_stk (pc := 5) (S' := [.int 1000, .int a1]) fe_63_5 rfl ?_
    by_cases hc2 : a1 < 1000
    · rw [if_pos hc2] at h
      refine ay_t_pos (pc := 8) hc2 fe_63_8 rfl ?_
      refine ay_t_loc (pc := 22) fe_63_22 rfl ?_
      refine ay_t_getR (pc := 23) (w := .ref 33) fe_63_23 at_0 (by decide +kernel) rfl ?_
      refine ay_t_loc (pc := 26) fe_63_26 rfl ?_
      cases hk5 : fn_62 a1 D with
      | none => rw [hk5] at h; cases h
      | some z =>
        obtain ⟨y3, D4⟩ := z
        rw [hk5] at h
        dsimp only at h
        refine ay_t_call (pc := 27) (w := some (.int y3)) fe_63_27 (ay_args [.ref 33, .int a1] [] rfl rfl (Nat.le_of_ble_eq_true rfl) (Nat.le_of_ble_eq_true rfl)) (ay_rcvV at_33 rfl) (ev_62 hk5) ?_
        cases h
        exact ay_t_iret fe_63_30 rfl rfl
    · rw [if_neg hc2] at h
      refine ay_t_neg (pc := 8) hc2 fe_63_8 rfl ?_
      cases h
      exact ay_t_thr fe_63_11 (by decide)
def fn_64_19 : Nat → Int32 → Int32 → am_DD → Option (Int32 × am_DD)
  | 0, _, _, _ => none
  | n + 1, x1, x2, D => (if 4096 ≤ x2 then some ((-1), D) else (match fn_51 D with | none => none | some (y9, D10) => (if ¬ y9 = x1 then fn_64_19 n x1 (x2 + 1) D10 else some (x2, D10))))
set_option maxHeartbeats 2000000 in
theorem ev_64_19 : ∀ (n : Nat) (x1 x2 : Int32) (D : am_DD) (y : Int32) (Z : am_DD), fn_64_19 n x1 x2 D = some (y, Z) → ay_to 64 19 [some (.ref 33), some (.int x1), some (.int x2)] [] D (.inl (some (.int y))) Z := by
  intro n
  induction n with
  | zero => intro x1 x2 D y Z h; cases h
  | succ n ih =>
    intro x1 x2 D y Z h
    rw [fn_64_19] at h
    refine ay_t_loc (pc := 19) fe_64_19 rfl ?_
    refine ay_t_stk (pc := 20) (S' := [.int 4096, .int x2]) fe_64_20 rfl ?_
    by_cases hc8 : 4096 ≤ x2
    · rw [if_pos hc8] at h
      refine ay_t_pos (pc := 23) hc8 fe_64_23 rfl ?_
      refine ay_t_stk (pc := 42) (S' := [.int (-1)]) fe_64_42 rfl ?_
      cases h
      exact ay_t_iret fe_64_43 rfl rfl
    · rw [if_neg hc8] at h
      refine ay_t_neg (pc := 23) hc8 fe_64_23 rfl ?_
      refine ay_t_loc (pc := 26) fe_64_26 rfl ?_
      cases hk11 : fn_51 D with
      | none => rw [hk11] at h; cases h
      | some z =>
        obtain ⟨y9, D10⟩ := z
        rw [hk11] at h
        dsimp only at h
        refine ay_t_call (pc := 27) (w := some (.int y9)) fe_64_27 (ay_args [.ref 33] [] rfl rfl (Nat.le_of_ble_eq_true rfl) (Nat.le_of_ble_eq_true rfl)) (ay_rcvV at_33 rfl) (ev_51 hk11) ?_
        refine ay_t_loc (pc := 30) fe_64_30 rfl ?_
        by_cases hc12 : ¬ y9 = x1
        · rw [if_pos hc12] at h
          refine ay_t_pos (pc := 31) hc12 fe_64_31 rfl ?_
          refine ay_t_loc (pc := 36) (L' := [some (.ref 33), some (.int x1), some (.int (x2 + 1))]) fe_64_36 rfl ?_
          refine ay_t_br (pc := 39) (pc' := 19) fe_64_39 rfl ?_
          exact ay_t_less (ay_ls (ay_ls (ay_ls ay_l0))) (ih _ _ _ _ _ h)
        · rw [if_neg hc12] at h
          refine ay_t_neg (pc := 31) hc12 fe_64_31 rfl ?_
          refine ay_t_loc (pc := 34) fe_64_34 rfl ?_
          cases h
          exact ay_t_iret fe_64_35 rfl rfl
def fn_64 (a1 : Int32) (D : am_DD) : Option (Int32 × am_DD) := (match fn_34 0 D with | none => none | some (y1, D2) => (if ¬ y1 = 0 then (match fn_50 D2 with | none => none | some (y5, D6) => fn_64_19 am_F a1 0 D6) else some ((-1), D2)))
set_option maxHeartbeats 2000000 in
theorem ev_64 {a1 : Int32} {D : am_DD} {y : Int32} {Z : am_DD} (h : fn_64 a1 D = some (y, Z)) : ay_mo 64 [.ref 33, .int a1] D (.inl (some (.int y))) Z := by
  unfold fn_64 at h
  refine ay_m_of (L := [some (.ref 33), some (.int a1), none]) rfl ?_
  refine ay_t_loc (pc := 0) fe_64_0 rfl ?_
  refine ay_t_getR (pc := 1) (w := .ref 8) fe_64_1 at_33 (by decide +kernel) rfl ?_
  refine ay_t_stk (pc := 4) (S' := [.int 0, .ref 8]) fe_64_4 rfl ?_
  cases hk3 : fn_34 0 D with
  | none => rw [hk3] at h; cases h
  | some z =>
    obtain ⟨y1, D2⟩ := z
    rw [hk3] at h
    dsimp only at h
    refine ay_t_call (pc := 5) (w := some (.int y1)) fe_64_5 (ay_args [.ref 8, .int 0] [] rfl rfl (Nat.le_of_ble_eq_true rfl) (Nat.le_of_ble_eq_true rfl)) (ay_rcvV at_8 rfl) (ev_34 hk3) ?_
    by_cases hc4 : ¬ y1 = 0
    · rw [if_pos hc4] at h
      refine ay_t_pos (pc := 8) hc4 fe_64_8 rfl ?_
      refine ay_t_loc (pc := 13) fe_64_13 rfl ?_
      cases hk7 : fn_50 D2 with
      | none => rw [hk7] at h; cases h
      | some z =>
        obtain ⟨y5, D6⟩ := z
        rw [hk7] at h
        dsimp only at h
        refine ay_t_call (pc := 14) (w := none) fe_64_14 (ay_args [.ref 33] [] rfl rfl (Nat.le_of_ble_eq_true rfl) (Nat.le_of_ble_eq_true rfl)) (ay_rcvV at_33 rfl) (ev_50 hk7) ?_
        refine ay_t_stk (pc := 17) (S' := [.int 0]) fe_64_17 rfl ?_
        refine ay_t_loc (pc := 18) (L' := [some (.ref 33), some (.int a1), some (.int 0)]) fe_64_18 rfl ?_
        exact ay_t_less (ay_ls (ay_ls (ay_ls ay_l0))) (ev_64_19 _ _ _ _ _ _ h)
    · rw [if_neg hc4] at h
      refine ay_t_neg (pc := 8) hc4 fe_64_8 rfl ?_
      refine ay_t_stk (pc := 11) (S' := [.int (-1)]) fe_64_11 rfl ?_
      cases h
      exact ay_t_iret fe_64_12 rfl rfl
def fn_65 (a1 : Int32) (D : am_DD) : Option (Int32 × Nat × am_DD) := (match fn_30 a1 D with | none => none | some (y1, D2) => (if ¬ y1 = 0 then (match fn_64 a1 D2 with | none => none | some (y5, D6) => some (y5, 0, D6)) else some (0, 3, D2)))
set_option maxHeartbeats 2000000 in
theorem ev_65 {a1 : Int32} {D : am_DD} {y : Int32} {k : Nat} {Z : am_DD} (h : fn_65 a1 D = some (y, k, Z)) : ay_mo 65 [.ref 0, .int a1] D (ay_oc y k) Z := by
  unfold fn_65 at h
  refine ay_m_of (L := [some (.ref 0), some (.int a1)]) rfl ?_
  refine ay_t_loc (pc := 0) fe_65_0 rfl ?_
  cases hk3 : fn_30 a1 D with
  | none => rw [hk3] at h; cases h
  | some z =>
    obtain ⟨y1, D2⟩ := z
    rw [hk3] at h
    dsimp only at h
    refine ay_t_call (pc := 1) (w := some (.int y1)) fe_65_1 (ay_args [.int a1] [] rfl rfl (Nat.le_of_ble_eq_true rfl) (Nat.le_of_ble_eq_true rfl)) rfl (ev_30 hk3) ?_
    by_cases hc4 : ¬ y1 = 0
    · rw [if_pos hc4] at h
      refine ay_t_pos (pc := 4) hc4 fe_65_4 rfl ?_
      refine ay_t_loc (pc := 17) fe_65_17 rfl ?_
      refine ay_t_getR (pc := 18) (w := .ref 33) fe_65_18 at_0 (by decide +kernel) rfl ?_
      refine ay_t_loc (pc := 21) fe_65_21 rfl ?_
      cases hk7 : fn_64 a1 D2 with
      | none => rw [hk7] at h; cases h
      | some z =>
        obtain ⟨y5, D6⟩ := z
        rw [hk7] at h
        dsimp only at h
        refine ay_t_call (pc := 22) (w := some (.int y5)) fe_65_22 (ay_args [.ref 33, .int a1] [] rfl rfl (Nat.le_of_ble_eq_true rfl) (Nat.le_of_ble_eq_true rfl)) (ay_rcvV at_33 rfl) (ev_64 hk7) ?_
        cases h
        exact ay_t_iret fe_65_25 rfl rfl
    · rw [if_neg hc4] at h
      refine ay_t_neg (pc := 4) hc4 fe_65_4 rfl ?_
      cases h
      exact ay_t_thr fe_65_7 (by decide)
def fn_66_218 : Nat → Int32 → Int32 → Int32 → Int32 → Int32 → am_DD → Option (Int32 × am_DD)
  | 0, _, _, _, _, _, _ => none
  | n + 1, x1, x2, x4, x5, x6, D => (if x2 ≤ x6 then (if x1 ≤ 0 then (if ay_isb x5 then some (x5, D) else none) else (match fn_63 (x1 - 1) D with | none => none | some (y172, k207, D173) => (if k207 = 0 then (match fn_65 y172 D173 with | none => none | some (y175, k205, D176) => (if k205 = 0 then (if x5 = 0 then some (0, D176) else (if y172 < 0 then some (0, D176) else (match fn_59 x1 (20 + y172) 0 D176 with | none => none | some (y180, k203, D181) => (if k203 = 0 then (match fn_59 (x1 - 1) (20 + y172) 1 D181 with | none => none | some (y183, k201, D184) => (if k201 = 0 then (if ¬ y180 = (y183 + 1) then some (0, D184) else (if y175 < 0 then some (0, D184) else (if x1 ≤ y175 then some (0, D184) else (match fn_63 y175 D184 with | none => none | some (y189, k199, D190) => (if k199 = 0 then (if ¬ y189 = y172 then some (0, D190) else (match fn_59 y175 (20 + y172) 0 D190 with | none => none | some (y193, k197, D194) => (if k197 = 0 then (if ¬ y193 = 0 then some (0, D194) else some (1, D194)) else none))) else none))))) else none)) else none)))) else none)) else none))) else (if 1000 < x4 then (if x1 ≤ 0 then (if ay_isb x5 then some (x5, D) else none) else (match fn_63 (x1 - 1) D with | none => none | some (y212, k247, D213) => (if k247 = 0 then (match fn_65 y212 D213 with | none => none | some (y215, k245, D216) => (if k245 = 0 then (if x5 = 0 then some (0, D216) else (if y212 < 0 then some (0, D216) else (match fn_59 x1 (20 + y212) 0 D216 with | none => none | some (y220, k243, D221) => (if k243 = 0 then (match fn_59 (x1 - 1) (20 + y212) 1 D221 with | none => none | some (y223, k241, D224) => (if k241 = 0 then (if ¬ y220 = (y223 + 1) then some (0, D224) else (if y215 < 0 then some (0, D224) else (if x1 ≤ y215 then some (0, D224) else (match fn_63 y215 D224 with | none => none | some (y229, k239, D230) => (if k239 = 0 then (if ¬ y229 = y212 then some (0, D230) else (match fn_59 y215 (20 + y212) 0 D230 with | none => none | some (y233, k237, D234) => (if k237 = 0 then (if ¬ y233 = 0 then some (0, D234) else some (1, D234)) else none))) else none))))) else none)) else none)))) else none)) else none))) else (if x5 = 0 then fn_66_218 n x1 x2 x4 0 (x6 + 1) D else (match fn_61 x4 x6 D with | none => none | some (y250, k259, D251) => (if k259 = 0 then (match fn_44 x6 0 D251 with | none => none | some (y253, k257, D254) => (if k257 = 0 then (if ¬ y250 = y253 then fn_66_218 n x1 x2 x4 0 (x6 + 1) D254 else fn_66_218 n x1 x2 x4 1 (x6 + 1) D254) else none)) else none)))))
set_option maxHeartbeats 2000000 in
theorem ev_66_218 : ∀ (n : Nat) (x1 x2 x4 x5 x6 : Int32) (D : am_DD) (y : Int32) (Z : am_DD), fn_66_218 n x1 x2 x4 x5 x6 D = some (y, Z) → ay_to 66 218 [some (.ref 0), some (.int x1), some (.int x2), none, some (.int x4), some (.int x5), some (.int x6), none] [] D (.inl (some (.int y))) Z := by
  intro n
  induction n with
  | zero => intro x1 x2 x4 x5 x6 D y Z h; cases h
  | succ n ih =>
    intro x1 x2 x4 x5 x6 D y Z h
    rw [fn_66_218] at h
    refine ay_t_loc (pc := 218) fe_66_218 rfl ?_
    refine ay_t_loc (pc := 220) fe_66_220 rfl ?_
    by_cases hc169 : x2 ≤ x6
    · rw [if_pos hc169] at h
      refine ay_t_pos (pc := 221) hc169 fe_66_221 rfl ?_
      refine ay_t_loc (pc := 268) fe_66_268 rfl ?_
      by_cases hc170 : x1 ≤ 0
      · rw [if_pos hc170] at h
        refine ay_t_pos (pc := 269) hc170 fe_66_269 rfl ?_
        refine ay_t_loc (pc := 372) fe_66_372 rfl ?_
        by_cases hn171 : ay_isb x5
        · rw [if_pos hn171] at h
          cases h
          exact ay_t_zret fe_66_374 rfl hn171
        · rw [if_neg hn171] at h; cases h
      · rw [if_neg hc170] at h
        refine ay_t_neg (pc := 269) hc170 fe_66_269 rfl ?_
        refine ay_t_loc (pc := 272) fe_66_272 rfl ?_
        refine ay_t_loc (pc := 273) fe_66_273 rfl ?_
        refine ay_t_stk (pc := 274) (S' := [.int 1, .int x1, .ref 0]) fe_66_274 rfl ?_
        refine ay_t_stk (pc := 275) (S' := [.int (x1 - 1), .ref 0]) fe_66_275 rfl ?_
        cases hk174 : fn_63 (x1 - 1) D with
        | none => rw [hk174] at h; cases h
        | some z =>
          obtain ⟨y172, k207, D173⟩ := z
          rw [hk174] at h
          dsimp only at h
          by_cases hz208 : k207 = 0
          case neg => rw [if_neg hz208] at h; cases h
          rw [if_pos hz208] at h
          subst hz208
          refine ay_t_call (pc := 276) (w := some (.int y172)) fe_66_276 (ay_args [.ref 0, .int (x1 - 1)] [] rfl rfl (Nat.le_of_ble_eq_true rfl) (Nat.le_of_ble_eq_true rfl)) (ay_rcvV at_0 rfl) (ev_63 hk174) ?_
          refine ay_t_loc (pc := 279) (L' := [some (.ref 0), some (.int x1), some (.int x2), none, some (.int x4), some (.int x5), some (.int y172), none]) fe_66_279 rfl ?_
          refine ay_t_loc (pc := 281) fe_66_281 rfl ?_
          refine ay_t_loc (pc := 282) fe_66_282 rfl ?_
          cases hk177 : fn_65 y172 D173 with
          | none => rw [hk177] at h; cases h
          | some z =>
            obtain ⟨y175, k205, D176⟩ := z
            rw [hk177] at h
            dsimp only at h
            by_cases hz206 : k205 = 0
            case neg => rw [if_neg hz206] at h; cases h
            rw [if_pos hz206] at h
            subst hz206
            refine ay_t_call (pc := 284) (w := some (.int y175)) fe_66_284 (ay_args [.ref 0, .int y172] [] rfl rfl (Nat.le_of_ble_eq_true rfl) (Nat.le_of_ble_eq_true rfl)) (ay_rcvV at_0 rfl) (ev_65 hk177) ?_
            refine ay_t_loc (pc := 287) (L' := [some (.ref 0), some (.int x1), some (.int x2), none, some (.int x4), some (.int x5), some (.int y172), some (.int y175)]) fe_66_287 rfl ?_
            refine ay_t_loc (pc := 289) fe_66_289 rfl ?_
            by_cases hc178 : x5 = 0
            · rw [if_pos hc178] at h
              refine ay_t_pos (pc := 291) hc178 fe_66_291 rfl ?_
              refine ay_t_stk (pc := 369) (S' := [.int 0]) fe_66_369 rfl ?_
              refine ay_t_loc (pc := 370) (L' := [some (.ref 0), some (.int x1), some (.int x2), none, some (.int x4), some (.int 0), some (.int y172), some (.int y175)]) fe_66_370 rfl ?_
              refine ay_t_loc (pc := 372) fe_66_372 rfl ?_
              cases h
              exact ay_t_iret fe_66_374 rfl rfl
            · rw [if_neg hc178] at h
              refine ay_t_neg (pc := 291) hc178 fe_66_291 rfl ?_
              refine ay_t_loc (pc := 294) fe_66_294 rfl ?_
              by_cases hc179 : y172 < 0
              · rw [if_pos hc179] at h
                refine ay_t_pos (pc := 296) hc179 fe_66_296 rfl ?_
                refine ay_t_stk (pc := 369) (S' := [.int 0]) fe_66_369 rfl ?_
                refine ay_t_loc (pc := 370) (L' := [some (.ref 0), some (.int x1), some (.int x2), none, some (.int x4), some (.int 0), some (.int y172), some (.int y175)]) fe_66_370 rfl ?_
                refine ay_t_loc (pc := 372) fe_66_372 rfl ?_
                cases h
                exact ay_t_iret fe_66_374 rfl rfl
              · rw [if_neg hc179] at h
                refine ay_t_neg (pc := 296) hc179 fe_66_296 rfl ?_
                refine ay_t_loc (pc := 299) fe_66_299 rfl ?_
                refine ay_t_loc (pc := 300) fe_66_300 rfl ?_
                refine ay_t_stk (pc := 301) (S' := [.int 20, .int x1, .ref 0]) fe_66_301 rfl ?_
                refine ay_t_loc (pc := 303) fe_66_303 rfl ?_
                refine ay_t_stk (pc := 305) (S' := [.int (20 + y172), .int x1, .ref 0]) fe_66_305 rfl ?_
                refine ay_t_stk (pc := 306) (S' := [.int 0, .int (20 + y172), .int x1, .ref 0]) fe_66_306 rfl ?_
                cases hk182 : fn_59 x1 (20 + y172) 0 D176 with
                | none => rw [hk182] at h; cases h
                | some z =>
                  obtain ⟨y180, k203, D181⟩ := z
                  rw [hk182] at h
                  dsimp only at h
                  by_cases hz204 : k203 = 0
                  case neg => rw [if_neg hz204] at h; cases h
                  rw [if_pos hz204] at h
                  subst hz204
                  refine ay_t_call (pc := 307) (w := some (.int y180)) fe_66_307 (ay_args [.ref 0, .int x1, .int (20 + y172), .int 0] [] rfl rfl (Nat.le_of_ble_eq_true rfl) (Nat.le_of_ble_eq_true rfl)) (ay_rcvV at_0 rfl) (ev_59 hk182) ?_
                  refine ay_t_loc (pc := 310) fe_66_310 rfl ?_
                  refine ay_t_loc (pc := 311) fe_66_311 rfl ?_
                  refine ay_t_stk (pc := 312) (S' := [.int 1, .int x1, .ref 0, .int y180]) fe_66_312 rfl ?_
                  refine ay_t_stk (pc := 313) (S' := [.int (x1 - 1), .ref 0, .int y180]) fe_66_313 rfl ?_
                  refine ay_t_stk (pc := 314) (S' := [.int 20, .int (x1 - 1), .ref 0, .int y180]) fe_66_314 rfl ?_
                  refine ay_t_loc (pc := 316) fe_66_316 rfl ?_
                  refine ay_t_stk (pc := 318) (S' := [.int (20 + y172), .int (x1 - 1), .ref 0, .int y180]) fe_66_318 rfl ?_
                  refine ay_t_stk (pc := 319) (S' := [.int 1, .int (20 + y172), .int (x1 - 1), .ref 0, .int y180]) fe_66_319 rfl ?_
                  cases hk185 : fn_59 (x1 - 1) (20 + y172) 1 D181 with
                  | none => rw [hk185] at h; cases h
                  | some z =>
                    obtain ⟨y183, k201, D184⟩ := z
                    rw [hk185] at h
                    dsimp only at h
                    by_cases hz202 : k201 = 0
                    case neg => rw [if_neg hz202] at h; cases h
                    rw [if_pos hz202] at h
                    subst hz202
                    refine ay_t_call (pc := 320) (w := some (.int y183)) fe_66_320 (ay_args [.ref 0, .int (x1 - 1), .int (20 + y172), .int 1] [.int y180] rfl rfl (Nat.le_of_ble_eq_true rfl) (Nat.le_of_ble_eq_true rfl)) (ay_rcvV at_0 rfl) (ev_59 hk185) ?_
                    refine ay_t_stk (pc := 323) (S' := [.int 1, .int y183, .int y180]) fe_66_323 rfl ?_
                    refine ay_t_stk (pc := 324) (S' := [.int (y183 + 1), .int y180]) fe_66_324 rfl ?_
                    by_cases hc186 : ¬ y180 = (y183 + 1)
                    · rw [if_pos hc186] at h
                      refine ay_t_pos (pc := 325) hc186 fe_66_325 rfl ?_
                      refine ay_t_stk (pc := 369) (S' := [.int 0]) fe_66_369 rfl ?_
                      refine ay_t_loc (pc := 370) (L' := [some (.ref 0), some (.int x1), some (.int x2), none, some (.int x4), some (.int 0), some (.int y172), some (.int y175)]) fe_66_370 rfl ?_
                      refine ay_t_loc (pc := 372) fe_66_372 rfl ?_
                      cases h
                      exact ay_t_iret fe_66_374 rfl rfl
                    · rw [if_neg hc186] at h
                      refine ay_t_neg (pc := 325) hc186 fe_66_325 rfl ?_
                      refine ay_t_loc (pc := 328) fe_66_328 rfl ?_
                      by_cases hc187 : y175 < 0
                      · rw [if_pos hc187] at h
                        refine ay_t_pos (pc := 330) hc187 fe_66_330 rfl ?_
                        refine ay_t_stk (pc := 369) (S' := [.int 0]) fe_66_369 rfl ?_
                        refine ay_t_loc (pc := 370) (L' := [some (.ref 0), some (.int x1), some (.int x2), none, some (.int x4), some (.int 0), some (.int y172), some (.int y175)]) fe_66_370 rfl ?_
                        refine ay_t_loc (pc := 372) fe_66_372 rfl ?_
                        cases h
                        exact ay_t_iret fe_66_374 rfl rfl
                      · rw [if_neg hc187] at h
                        refine ay_t_neg (pc := 330) hc187 fe_66_330 rfl ?_
                        refine ay_t_loc (pc := 333) fe_66_333 rfl ?_
                        refine ay_t_loc (pc := 335) fe_66_335 rfl ?_
                        by_cases hc188 : x1 ≤ y175
                        · rw [if_pos hc188] at h
                          refine ay_t_pos (pc := 336) hc188 fe_66_336 rfl ?_
                          refine ay_t_stk (pc := 369) (S' := [.int 0]) fe_66_369 rfl ?_
                          refine ay_t_loc (pc := 370) (L' := [some (.ref 0), some (.int x1), some (.int x2), none, some (.int x4), some (.int 0), some (.int y172), some (.int y175)]) fe_66_370 rfl ?_
                          refine ay_t_loc (pc := 372) fe_66_372 rfl ?_
                          cases h
                          exact ay_t_iret fe_66_374 rfl rfl
                        · rw [if_neg hc188] at h
                          refine ay_t_neg (pc := 336) hc188 fe_66_336 rfl ?_
                          refine ay_t_loc (pc := 339) fe_66_339 rfl ?_
                          refine ay_t_loc (pc := 340) fe_66_340 rfl ?_
                          cases hk191 : fn_63 y175 D184 with
                          | none => rw [hk191] at h; cases h
                          | some z =>
                            obtain ⟨y189, k199, D190⟩ := z
                            rw [hk191] at h
                            dsimp only at h
                            by_cases hz200 : k199 = 0
                            case neg => rw [if_neg hz200] at h; cases h
                            rw [if_pos hz200] at h
                            subst hz200
                            refine ay_t_call (pc := 342) (w := some (.int y189)) fe_66_342 (ay_args [.ref 0, .int y175] [] rfl rfl (Nat.le_of_ble_eq_true rfl) (Nat.le_of_ble_eq_true rfl)) (ay_rcvV at_0 rfl) (ev_63 hk191) ?_
                            refine ay_t_loc (pc := 345) fe_66_345 rfl ?_
                            by_cases hc192 : ¬ y189 = y172
                            · rw [if_pos hc192] at h
                              refine ay_t_pos (pc := 347) hc192 fe_66_347 rfl ?_
                              refine ay_t_stk (pc := 369) (S' := [.int 0]) fe_66_369 rfl ?_
                              refine ay_t_loc (pc := 370) (L' := [some (.ref 0), some (.int x1), some (.int x2), none, some (.int x4), some (.int 0), some (.int y172), some (.int y175)]) fe_66_370 rfl ?_
                              refine ay_t_loc (pc := 372) fe_66_372 rfl ?_
                              cases h
                              exact ay_t_iret fe_66_374 rfl rfl
                            · rw [if_neg hc192] at h
                              refine ay_t_neg (pc := 347) hc192 fe_66_347 rfl ?_
                              refine ay_t_loc (pc := 350) fe_66_350 rfl ?_
                              refine ay_t_loc (pc := 351) fe_66_351 rfl ?_
                              refine ay_t_stk (pc := 353) (S' := [.int 20, .int y175, .ref 0]) fe_66_353 rfl ?_
                              refine ay_t_loc (pc := 355) fe_66_355 rfl ?_
                              refine ay_t_stk (pc := 357) (S' := [.int (20 + y172), .int y175, .ref 0]) fe_66_357 rfl ?_
                              refine ay_t_stk (pc := 358) (S' := [.int 0, .int (20 + y172), .int y175, .ref 0]) fe_66_358 rfl ?_
                              cases hk195 : fn_59 y175 (20 + y172) 0 D190 with
                              | none => rw [hk195] at h; cases h
                              | some z =>
                                obtain ⟨y193, k197, D194⟩ := z
                                rw [hk195] at h
                                dsimp only at h
                                by_cases hz198 : k197 = 0
                                case neg => rw [if_neg hz198] at h; cases h
                                rw [if_pos hz198] at h
                                subst hz198
                                refine ay_t_call (pc := 359) (w := some (.int y193)) fe_66_359 (ay_args [.ref 0, .int y175, .int (20 + y172), .int 0] [] rfl rfl (Nat.le_of_ble_eq_true rfl) (Nat.le_of_ble_eq_true rfl)) (ay_rcvV at_0 rfl) (ev_59 hk195) ?_
                                by_cases hc196 : ¬ y193 = 0
                                · rw [if_pos hc196] at h
                                  refine ay_t_pos (pc := 362) hc196 fe_66_362 rfl ?_
                                  refine ay_t_stk (pc := 369) (S' := [.int 0]) fe_66_369 rfl ?_
                                  refine ay_t_loc (pc := 370) (L' := [some (.ref 0), some (.int x1), some (.int x2), none, some (.int x4), some (.int 0), some (.int y172), some (.int y175)]) fe_66_370 rfl ?_
                                  refine ay_t_loc (pc := 372) fe_66_372 rfl ?_
                                  cases h
                                  exact ay_t_iret fe_66_374 rfl rfl
                                · rw [if_neg hc196] at h
                                  refine ay_t_neg (pc := 362) hc196 fe_66_362 rfl ?_
                                  refine ay_t_stk (pc := 365) (S' := [.int 1]) fe_66_365 rfl ?_
                                  refine ay_t_br (pc := 366) (pc' := 370) fe_66_366 rfl ?_
                                  refine ay_t_loc (pc := 370) (L' := [some (.ref 0), some (.int x1), some (.int x2), none, some (.int x4), some (.int 1), some (.int y172), some (.int y175)]) fe_66_370 rfl ?_
                                  refine ay_t_loc (pc := 372) fe_66_372 rfl ?_
                                  cases h
                                  exact ay_t_iret fe_66_374 rfl rfl
    · rw [if_neg hc169] at h
      refine ay_t_neg (pc := 221) hc169 fe_66_221 rfl ?_
      refine ay_t_loc (pc := 224) fe_66_224 rfl ?_
      refine ay_t_stk (pc := 226) (S' := [.int 1000, .int x4]) fe_66_226 rfl ?_
      by_cases hc209 : 1000 < x4
      · rw [if_pos hc209] at h
        refine ay_t_pos (pc := 229) hc209 fe_66_229 rfl ?_
        refine ay_t_loc (pc := 268) fe_66_268 rfl ?_
        by_cases hc210 : x1 ≤ 0
        · rw [if_pos hc210] at h
          refine ay_t_pos (pc := 269) hc210 fe_66_269 rfl ?_
          refine ay_t_loc (pc := 372) fe_66_372 rfl ?_
          by_cases hn211 : ay_isb x5
          · rw [if_pos hn211] at h
            cases h
            exact ay_t_zret fe_66_374 rfl hn211
          · rw [if_neg hn211] at h; cases h
        · rw [if_neg hc210] at h
          refine ay_t_neg (pc := 269) hc210 fe_66_269 rfl ?_
          refine ay_t_loc (pc := 272) fe_66_272 rfl ?_
          refine ay_t_loc (pc := 273) fe_66_273 rfl ?_
          refine ay_t_stk (pc := 274) (S' := [.int 1, .int x1, .ref 0]) fe_66_274 rfl ?_
          refine ay_t_stk (pc := 275) (S' := [.int (x1 - 1), .ref 0]) fe_66_275 rfl ?_
          cases hk214 : fn_63 (x1 - 1) D with
          | none => rw [hk214] at h; cases h
          | some z =>
            obtain ⟨y212, k247, D213⟩ := z
            rw [hk214] at h
            dsimp only at h
            by_cases hz248 : k247 = 0
            case neg => rw [if_neg hz248] at h; cases h
            rw [if_pos hz248] at h
            subst hz248
            refine ay_t_call (pc := 276) (w := some (.int y212)) fe_66_276 (ay_args [.ref 0, .int (x1 - 1)] [] rfl rfl (Nat.le_of_ble_eq_true rfl) (Nat.le_of_ble_eq_true rfl)) (ay_rcvV at_0 rfl) (ev_63 hk214) ?_
            refine ay_t_loc (pc := 279) (L' := [some (.ref 0), some (.int x1), some (.int x2), none, some (.int x4), some (.int x5), some (.int y212), none]) fe_66_279 rfl ?_
            refine ay_t_loc (pc := 281) fe_66_281 rfl ?_
            refine ay_t_loc (pc := 282) fe_66_282 rfl ?_
            cases hk217 : fn_65 y212 D213 with
            | none => rw [hk217] at h; cases h
            | some z =>
              obtain ⟨y215, k245, D216⟩ := z
              rw [hk217] at h
              dsimp only at h
              by_cases hz246 : k245 = 0
              case neg => rw [if_neg hz246] at h; cases h
              rw [if_pos hz246] at h
              subst hz246
              refine ay_t_call (pc := 284) (w := some (.int y215)) fe_66_284 (ay_args [.ref 0, .int y212] [] rfl rfl (Nat.le_of_ble_eq_true rfl) (Nat.le_of_ble_eq_true rfl)) (ay_rcvV at_0 rfl) (ev_65 hk217) ?_
              refine ay_t_loc (pc := 287) (L' := [some (.ref 0), some (.int x1), some (.int x2), none, some (.int x4), some (.int x5), some (.int y212), some (.int y215)]) fe_66_287 rfl ?_
              refine ay_t_loc (pc := 289) fe_66_289 rfl ?_
              by_cases hc218 : x5 = 0
              · rw [if_pos hc218] at h
                refine ay_t_pos (pc := 291) hc218 fe_66_291 rfl ?_
                refine ay_t_stk (pc := 369) (S' := [.int 0]) fe_66_369 rfl ?_
                refine ay_t_loc (pc := 370) (L' := [some (.ref 0), some (.int x1), some (.int x2), none, some (.int x4), some (.int 0), some (.int y212), some (.int y215)]) fe_66_370 rfl ?_
                refine ay_t_loc (pc := 372) fe_66_372 rfl ?_
                cases h
                exact ay_t_iret fe_66_374 rfl rfl
              · rw [if_neg hc218] at h
                refine ay_t_neg (pc := 291) hc218 fe_66_291 rfl ?_
                refine ay_t_loc (pc := 294) fe_66_294 rfl ?_
                by_cases hc219 : y212 < 0
                · rw [if_pos hc219] at h
                  refine ay_t_pos (pc := 296) hc219 fe_66_296 rfl ?_
                  refine ay_t_stk (pc := 369) (S' := [.int 0]) fe_66_369 rfl ?_
                  refine ay_t_loc (pc := 370) (L' := [some (.ref 0), some (.int x1), some (.int x2), none, some (.int x4), some (.int 0), some (.int y212), some (.int y215)]) fe_66_370 rfl ?_
                  refine ay_t_loc (pc := 372) fe_66_372 rfl ?_
                  cases h
                  exact ay_t_iret fe_66_374 rfl rfl
                · rw [if_neg hc219] at h
                  refine ay_t_neg (pc := 296) hc219 fe_66_296 rfl ?_
                  refine ay_t_loc (pc := 299) fe_66_299 rfl ?_
                  refine ay_t_loc (pc := 300) fe_66_300 rfl ?_
                  refine ay_t_stk (pc := 301) (S' := [.int 20, .int x1, .ref 0]) fe_66_301 rfl ?_
                  refine ay_t_loc (pc := 303) fe_66_303 rfl ?_
                  refine ay_t_stk (pc := 305) (S' := [.int (20 + y212), .int x1, .ref 0]) fe_66_305 rfl ?_
                  refine ay_t_stk (pc := 306) (S' := [.int 0, .int (20 + y212), .int x1, .ref 0]) fe_66_306 rfl ?_
                  cases hk222 : fn_59 x1 (20 + y212) 0 D216 with
                  | none => rw [hk222] at h; cases h
                  | some z =>
                    obtain ⟨y220, k243, D221⟩ := z
                    rw [hk222] at h
                    dsimp only at h
                    by_cases hz244 : k243 = 0
                    case neg => rw [if_neg hz244] at h; cases h
                    rw [if_pos hz244] at h
                    subst hz244
                    refine ay_t_call (pc := 307) (w := some (.int y220)) fe_66_307 (ay_args [.ref 0, .int x1, .int (20 + y212), .int 0] [] rfl rfl (Nat.le_of_ble_eq_true rfl) (Nat.le_of_ble_eq_true rfl)) (ay_rcvV at_0 rfl) (ev_59 hk222) ?_
                    refine ay_t_loc (pc := 310) fe_66_310 rfl ?_
                    refine ay_t_loc (pc := 311) fe_66_311 rfl ?_
                    refine ay_t_stk (pc := 312) (S' := [.int 1, .int x1, .ref 0, .int y220]) fe_66_312 rfl ?_
                    refine ay_t_stk (pc := 313) (S' := [.int (x1 - 1), .ref 0, .int y220]) fe_66_313 rfl ?_
                    refine ay_t_stk (pc := 314) (S' := [.int 20, .int (x1 - 1), .ref 0, .int y220]) fe_66_314 rfl ?_
                    refine ay_t_loc (pc := 316) fe_66_316 rfl ?_
                    refine ay_t_stk (pc := 318) (S' := [.int (20 + y212), .int (x1 - 1), .ref 0, .int y220]) fe_66_318 rfl ?_
                    refine ay_t_stk (pc := 319) (S' := [.int 1, .int (20 + y212), .int (x1 - 1), .ref 0, .int y220]) fe_66_319 rfl ?_
                    cases hk225 : fn_59 (x1 - 1) (20 + y212) 1 D221 with
                    | none => rw [hk225] at h; cases h
                    | some z =>
                      obtain ⟨y223, k241, D224⟩ := z
                      rw [hk225] at h
                      dsimp only at h
                      by_cases hz242 : k241 = 0
                      case neg => rw [if_neg hz242] at h; cases h
                      rw [if_pos hz242] at h
                      subst hz242
                      refine ay_t_call (pc := 320) (w := some (.int y223)) fe_66_320 (ay_args [.ref 0, .int (x1 - 1), .int (20 + y212), .int 1] [.int y220] rfl rfl (Nat.le_of_ble_eq_true rfl) (Nat.le_of_ble_eq_true rfl)) (ay_rcvV at_0 rfl) (ev_59 hk225) ?_
                      refine ay_t_stk (pc := 323) (S' := [.int 1, .int y223, .int y220]) fe_66_323 rfl ?_
                      refine ay_t_stk (pc := 324) (S' := [.int (y223 + 1), .int y220]) fe_66_324 rfl ?_
                      by_cases hc226 : ¬ y220 = (y223 + 1)
                      · rw [if_pos hc226] at h
                        refine ay_t_pos (pc := 325) hc226 fe_66_325 rfl ?_
                        refine ay_t_stk (pc := 369) (S' := [.int 0]) fe_66_369 rfl ?_
                        refine ay_t_loc (pc := 370) (L' := [some (.ref 0), some (.int x1), some (.int x2), none, some (.int x4), some (.int 0), some (.int y212), some (.int y215)]) fe_66_370 rfl ?_
                        refine ay_t_loc (pc := 372) fe_66_372 rfl ?_
                        cases h
                        exact ay_t_iret fe_66_374 rfl rfl
                      · rw [if_neg hc226] at h
                        refine ay_t_neg (pc := 325) hc226 fe_66_325 rfl ?_
                        refine ay_t_loc (pc := 328) fe_66_328 rfl ?_
                        by_cases hc227 : y215 < 0
                        · rw [if_pos hc227] at h
                          refine ay_t_pos (pc := 330) hc227 fe_66_330 rfl ?_
                          refine ay_t_stk (pc := 369) (S' := [.int 0]) fe_66_369 rfl ?_
                          refine ay_t_loc (pc := 370) (L' := [some (.ref 0), some (.int x1), some (.int x2), none, some (.int x4), some (.int 0), some (.int y212), some (.int y215)]) fe_66_370 rfl ?_
                          refine ay_t_loc (pc := 372) fe_66_372 rfl ?_
                          cases h
                          exact ay_t_iret fe_66_374 rfl rfl
                        · rw [if_neg hc227] at h
                          refine ay_t_neg (pc := 330) hc227 fe_66_330 rfl ?_
                          refine ay_t_loc (pc := 333) fe_66_333 rfl ?_
                          refine ay_t_loc (pc := 335) fe_66_335 rfl ?_
                          by_cases hc228 : x1 ≤ y215
                          · rw [if_pos hc228] at h
                            refine ay_t_pos (pc := 336) hc228 fe_66_336 rfl ?_
                            refine ay_t_stk (pc := 369) (S' := [.int 0]) fe_66_369 rfl ?_
                            refine ay_t_loc (pc := 370) (L' := [some (.ref 0), some (.int x1), some (.int x2), none, some (.int x4), some (.int 0), some (.int y212), some (.int y215)]) fe_66_370 rfl ?_
                            refine ay_t_loc (pc := 372) fe_66_372 rfl ?_
                            cases h
                            exact ay_t_iret fe_66_374 rfl rfl
                          · rw [if_neg hc228] at h
                            refine ay_t_neg (pc := 336) hc228 fe_66_336 rfl ?_
                            refine ay_t_loc (pc := 339) fe_66_339 rfl ?_
                            refine ay_t_loc (pc := 340) fe_66_340 rfl ?_
                            cases hk231 : fn_63 y215 D224 with
                            | none => rw [hk231] at h; cases h
                            | some z =>
                              obtain ⟨y229, k239, D230⟩ := z
                              rw [hk231] at h
                              dsimp only at h
                              by_cases hz240 : k239 = 0
                              case neg => rw [if_neg hz240] at h; cases h
                              rw [if_pos hz240] at h
                              subst hz240
                              refine ay_t_call (pc := 342) (w := some (.int y229)) fe_66_342 (ay_args [.ref 0, .int y215] [] rfl rfl (Nat.le_of_ble_eq_true rfl) (Nat.le_of_ble_eq_true rfl)) (ay_rcvV at_0 rfl) (ev_63 hk231) ?_
                              refine ay_t_loc (pc := 345) fe_66_345 rfl ?_
                              by_cases hc232 : ¬ y229 = y212
                              · rw [if_pos hc232] at h
                                refine ay_t_pos (pc := 347) hc232 fe_66_347 rfl ?_
                                refine ay_t_stk (pc := 369) (S' := [.int 0]) fe_66_369 rfl ?_
                                refine ay_t_loc (pc := 370) (L' := [some (.ref 0), some (.int x1), some (.int x2), none, some (.int x4), some (.int 0), some (.int y212), some (.int y215)]) fe_66_370 rfl ?_
                                refine ay_t_loc (pc := 372) fe_66_372 rfl ?_
                                cases h
                                exact ay_t_iret fe_66_374 rfl rfl
                              · rw [if_neg hc232] at h
                                refine ay_t_neg (pc := 347) hc232 fe_66_347 rfl ?_
                                refine ay_t_loc (pc := 350) fe_66_350 rfl ?_
                                refine ay_t_loc (pc := 351) fe_66_351 rfl ?_
                                refine ay_t_stk (pc := 353) (S' := [.int 20, .int y215, .ref 0]) fe_66_353 rfl ?_
                                refine ay_t_loc (pc := 355) fe_66_355 rfl ?_
                                refine ay_t_stk (pc := 357) (S' := [.int (20 + y212), .int y215, .ref 0]) fe_66_357 rfl ?_
                                refine ay_t_stk (pc := 358) (S' := [.int 0, .int (20 + y212), .int y215, .ref 0]) fe_66_358 rfl ?_
                                cases hk235 : fn_59 y215 (20 + y212) 0 D230 with
                                | none => rw [hk235] at h; cases h
                                | some z =>
                                  obtain ⟨y233, k237, D234⟩ := z
                                  rw [hk235] at h
                                  dsimp only at h
                                  by_cases hz238 : k237 = 0
                                  case neg => rw [if_neg hz238] at h; cases h
                                  rw [if_pos hz238] at h
                                  subst hz238
                                  refine ay_t_call (pc := 359) (w := some (.int y233)) fe_66_359 (ay_args [.ref 0, .int y215, .int (20 + y212), .int 0] [] rfl rfl (Nat.le_of_ble_eq_true rfl) (Nat.le_of_ble_eq_true rfl)) (ay_rcvV at_0 rfl) (ev_59 hk235) ?_
                                  by_cases hc236 : ¬ y233 = 0
                                  · rw [if_pos hc236] at h
                                    refine ay_t_pos (pc := 362) hc236 fe_66_362 rfl ?_
                                    refine ay_t_stk (pc := 369) (S' := [.int 0]) fe_66_369 rfl ?_
                                    refine ay_t_loc (pc := 370) (L' := [some (.ref 0), some (.int x1), some (.int x2), none, some (.int x4), some (.int 0), some (.int y212), some (.int y215)]) fe_66_370 rfl ?_
                                    refine ay_t_loc (pc := 372) fe_66_372 rfl ?_
                                    cases h
                                    exact ay_t_iret fe_66_374 rfl rfl
                                  · rw [if_neg hc236] at h
                                    refine ay_t_neg (pc := 362) hc236 fe_66_362 rfl ?_
                                    refine ay_t_stk (pc := 365) (S' := [.int 1]) fe_66_365 rfl ?_
                                    refine ay_t_br (pc := 366) (pc' := 370) fe_66_366 rfl ?_
                                    refine ay_t_loc (pc := 370) (L' := [some (.ref 0), some (.int x1), some (.int x2), none, some (.int x4), some (.int 1), some (.int y212), some (.int y215)]) fe_66_370 rfl ?_
                                    refine ay_t_loc (pc := 372) fe_66_372 rfl ?_
                                    cases h
                                    exact ay_t_iret fe_66_374 rfl rfl
      · rw [if_neg hc209] at h
        refine ay_t_neg (pc := 229) hc209 fe_66_229 rfl ?_
        refine ay_t_loc (pc := 232) fe_66_232 rfl ?_
        by_cases hc249 : x5 = 0
        · rw [if_pos hc249] at h
          refine ay_t_pos (pc := 234) hc249 fe_66_234 rfl ?_
          refine ay_t_stk (pc := 259) (S' := [.int 0]) fe_66_259 rfl ?_
          refine ay_t_loc (pc := 260) (L' := [some (.ref 0), some (.int x1), some (.int x2), none, some (.int x4), some (.int 0), some (.int x6), none]) fe_66_260 rfl ?_
          refine ay_t_loc (pc := 262) (L' := [some (.ref 0), some (.int x1), some (.int x2), none, some (.int x4), some (.int 0), some (.int (x6 + 1)), none]) fe_66_262 rfl ?_
          refine ay_t_br (pc := 265) (pc' := 218) fe_66_265 rfl ?_
          exact ay_t_less (ay_ls (ay_ls (ay_ls (ay_ls (ay_ls (ay_ls (ay_ls (ay_ls ay_l0)))))))) (ih _ _ _ _ _ _ _ _ h)
        · rw [if_neg hc249] at h
          refine ay_t_neg (pc := 234) hc249 fe_66_234 rfl ?_
          refine ay_t_loc (pc := 237) fe_66_237 rfl ?_
          refine ay_t_loc (pc := 238) fe_66_238 rfl ?_
          refine ay_t_loc (pc := 240) fe_66_240 rfl ?_
          cases hk252 : fn_61 x4 x6 D with
          | none => rw [hk252] at h; cases h
          | some z =>
            obtain ⟨y250, k259, D251⟩ := z
            rw [hk252] at h
            dsimp only at h
            by_cases hz260 : k259 = 0
            case neg => rw [if_neg hz260] at h; cases h
            rw [if_pos hz260] at h
            subst hz260
            refine ay_t_call (pc := 242) (w := some (.int y250)) fe_66_242 (ay_args [.ref 0, .int x4, .int x6] [] rfl rfl (Nat.le_of_ble_eq_true rfl) (Nat.le_of_ble_eq_true rfl)) (ay_rcvV at_0 rfl) (ev_61 hk252) ?_
            refine ay_t_loc (pc := 245) fe_66_245 rfl ?_
            refine ay_t_loc (pc := 246) fe_66_246 rfl ?_
            refine ay_t_stk (pc := 248) (S' := [.int 0, .int x6, .ref 0, .int y250]) fe_66_248 rfl ?_
            cases hk255 : fn_44 x6 0 D251 with
            | none => rw [hk255] at h; cases h
            | some z =>
              obtain ⟨y253, k257, D254⟩ := z
              rw [hk255] at h
              dsimp only at h
              by_cases hz258 : k257 = 0
              case neg => rw [if_neg hz258] at h; cases h
              rw [if_pos hz258] at h
              subst hz258
              refine ay_t_call (pc := 249) (w := some (.int y253)) fe_66_249 (ay_args [.ref 0, .int x6, .int 0] [.int y250] rfl rfl (Nat.le_of_ble_eq_true rfl) (Nat.le_of_ble_eq_true rfl)) (ay_rcvV at_0 rfl) (ev_44 hk255) ?_
              by_cases hc256 : ¬ y250 = y253
              · rw [if_pos hc256] at h
                refine ay_t_pos (pc := 252) hc256 fe_66_252 rfl ?_
                refine ay_t_stk (pc := 259) (S' := [.int 0]) fe_66_259 rfl ?_
                refine ay_t_loc (pc := 260) (L' := [some (.ref 0), some (.int x1), some (.int x2), none, some (.int x4), some (.int 0), some (.int x6), none]) fe_66_260 rfl ?_
                refine ay_t_loc (pc := 262) (L' := [some (.ref 0), some (.int x1), some (.int x2), none, some (.int x4), some (.int 0), some (.int (x6 + 1)), none]) fe_66_262 rfl ?_
                refine ay_t_br (pc := 265) (pc' := 218) fe_66_265 rfl ?_
                exact ay_t_less (ay_ls (ay_ls (ay_ls (ay_ls (ay_ls (ay_ls (ay_ls (ay_ls ay_l0)))))))) (ih _ _ _ _ _ _ _ _ h)
              · rw [if_neg hc256] at h
                refine ay_t_neg (pc := 252) hc256 fe_66_252 rfl ?_
                refine ay_t_stk (pc := 255) (S' := [.int 1]) fe_66_255 rfl ?_
                refine ay_t_br (pc := 256) (pc' := 260) fe_66_256 rfl ?_
                refine ay_t_loc (pc := 260) (L' := [some (.ref 0), some (.int x1), some (.int x2), none, some (.int x4), some (.int 1), some (.int x6), none]) fe_66_260 rfl ?_
                refine ay_t_loc (pc := 262) (L' := [some (.ref 0), some (.int x1), some (.int x2), none, some (.int x4), some (.int 1), some (.int (x6 + 1)), none]) fe_66_262 rfl ?_
                refine ay_t_br (pc := 265) (pc' := 218) fe_66_265 rfl ?_
                exact ay_t_less (ay_ls (ay_ls (ay_ls (ay_ls (ay_ls (ay_ls (ay_ls (ay_ls ay_l0)))))))) (ih _ _ _ _ _ _ _ _ h)
def fn_66_17 : Nat → Int32 → Int32 → Int32 → Int32 → Int32 → am_DD → Option (Int32 × am_DD)
  | 0, _, _, _, _, _, _ => none
  | n + 1, x1, x2, x3, x4, x5, D => (if 25 ≤ x5 then (if ¬ x2 = 0 then (if ¬ x3 = x1 then fn_66_218 am_F x1 x2 x4 0 0 D else (match fn_59 x1 0 1 D with | none => none | some (y12, k19, D13) => (if k19 = 0 then (if ¬ y12 = x1 then fn_66_218 am_F x1 x2 x4 0 0 D13 else (if ¬ (x4 &&& (x4 - 1)) = 0 then fn_66_218 am_F x1 x2 x4 0 0 D13 else (if x4 ≤ 0 then fn_66_218 am_F x1 x2 x4 0 0 D13 else (if 4096 < x4 then fn_66_218 am_F x1 x2 x4 0 0 D13 else fn_66_218 am_F x1 x2 x4 1 0 D13)))) else none))) else (if ¬ x3 = 0 then some (0, D) else (if ¬ x4 = (-1) then some (0, D) else (match fn_63 (x1 - x1 / 1000 * 1000) D with | none => none | some (y23, k33, D24) => (if k33 = 0 then (if ¬ y23 = (-1) then some (0, D24) else (match fn_65 (x1 - x1 / 5 * 5) D24 with | none => none | some (y27, k31, D28) => (if k31 = 0 then (if ¬ y27 = (-1) then some (0, D28) else some (1, D28)) else none))) else none))))) else (if x5 < x2 then (match fn_59 x1 x5 0 D with | none => none | some (y36, k100, D37) => (if k100 = 0 then (if x5 ≤ 19 then (match fn_59 x1 x5 1 D37 with | none => none | some (y40, k68, D41) => (if k68 = 0 then (if ¬ y36 = y40 then some (0, D41) else (if x2 ≤ x5 then (match fn_59 0 x5 (x1 - x1 / 2 * 2) D41 with | none => none | some (y45, k49, D46) => (if k49 = 0 then (if y45 = 0 then fn_66_17 n x1 x2 (x3 + 0) x4 (x5 + 1) D46 else some (0, D46)) else none)) else (match fn_61 x1 x5 D41 with | none => none | some (y51, k66, D52) => (if k66 = 0 then (match fn_44 x5 0 D52 with | none => none | some (y54, k64, D55) => (if k64 = 0 then (if ¬ y51 = ((y54 + y36) - (y54 + y36) / 2 * 2) then some (0, D55) else (match fn_59 0 x5 (x1 - x1 / 2 * 2) D55 with | none => none | some (y58, k62, D59) => (if k62 = 0 then (if y58 = 0 then fn_66_17 n x1 x2 (x3 + 0) x4 (x5 + 1) D59 else some (0, D59)) else none))) else none)) else none)))) else none)) else (match fn_59 x1 x5 1 D37 with | none => none | some (y70, k98, D71) => (if k98 = 0 then (if ¬ y36 = y70 then some (0, D71) else (if x2 ≤ x5 then (match fn_59 0 x5 (x1 - x1 / 2 * 2) D71 with | none => none | some (y75, k79, D76) => (if k79 = 0 then (if y75 = 0 then fn_66_17 n x1 x2 (x3 + y36) x4 (x5 + 1) D76 else some (0, D76)) else none)) else (match fn_61 x1 x5 D71 with | none => none | some (y81, k96, D82) => (if k96 = 0 then (match fn_44 x5 0 D82 with | none => none | some (y84, k94, D85) => (if k94 = 0 then (if ¬ y81 = ((y84 + y36) - (y84 + y36) / 2 * 2) then some (0, D85) else (match fn_59 0 x5 (x1 - x1 / 2 * 2) D85 with | none => none | some (y88, k92, D89) => (if k92 = 0 then (if y88 = 0 then fn_66_17 n x1 x2 (x3 + y36) x4 (x5 + 1) D89 else some (0, D89)) else none))) else none)) else none)))) else none))) else none)) else (if x5 ≤ 19 then fn_66_17 n x1 x2 x3 x4 (x5 + 1) D else (match fn_59 x1 x5 0 D with | none => none | some (y103, k167, D104) => (if k167 = 0 then (if x5 ≤ 19 then (match fn_59 x1 x5 1 D104 with | none => none | some (y107, k135, D108) => (if k135 = 0 then (if ¬ y103 = y107 then some (0, D108) else (if x2 ≤ x5 then (match fn_59 0 x5 (x1 - x1 / 2 * 2) D108 with | none => none | some (y112, k116, D113) => (if k116 = 0 then (if y112 = 0 then fn_66_17 n x1 x2 (x3 + 0) x4 (x5 + 1) D113 else some (0, D113)) else none)) else (match fn_61 x1 x5 D108 with | none => none | some (y118, k133, D119) => (if k133 = 0 then (match fn_44 x5 0 D119 with | none => none | some (y121, k131, D122) => (if k131 = 0 then (if ¬ y118 = ((y121 + y103) - (y121 + y103) / 2 * 2) then some (0, D122) else (match fn_59 0 x5 (x1 - x1 / 2 * 2) D122 with | none => none | some (y125, k129, D126) => (if k129 = 0 then (if y125 = 0 then fn_66_17 n x1 x2 (x3 + 0) x4 (x5 + 1) D126 else some (0, D126)) else none))) else none)) else none)))) else none)) else (match fn_59 x1 x5 1 D104 with | none => none | some (y137, k165, D138) => (if k165 = 0 then (if ¬ y103 = y137 then some (0, D138) else (if x2 ≤ x5 then (match fn_59 0 x5 (x1 - x1 / 2 * 2) D138 with | none => none | some (y142, k146, D143) => (if k146 = 0 then (if y142 = 0 then fn_66_17 n x1 x2 (x3 + y103) x4 (x5 + 1) D143 else some (0, D143)) else none)) else (match fn_61 x1 x5 D138 with | none => none | some (y148, k163, D149) => (if k163 = 0 then (match fn_44 x5 0 D149 with | none => none | some (y151, k161, D152) => (if k161 = 0 then (if ¬ y148 = ((y151 + y103) - (y151 + y103) / 2 * 2) then some (0, D152) else (match fn_59 0 x5 (x1 - x1 / 2 * 2) D152 with | none => none | some (y155, k159, D156) => (if k159 = 0 then (if y155 = 0 then fn_66_17 n x1 x2 (x3 + y103) x4 (x5 + 1) D156 else some (0, D156)) else none))) else none)) else none)))) else none))) else none)))))
set_option maxHeartbeats 2000000 in
theorem ev_66_17 : ∀ (n : Nat) (x1 x2 x3 x4 x5 : Int32) (D : am_DD) (y : Int32) (Z : am_DD), fn_66_17 n x1 x2 x3 x4 x5 D = some (y, Z) → ay_to 66 17 [some (.ref 0), some (.int x1), some (.int x2), some (.int x3), some (.int x4), some (.int x5), none, none] [] D (.inl (some (.int y))) Z := by
  intro n
  induction n with
  | zero => intro x1 x2 x3 x4 x5 D y Z h; cases h
  | succ n ih =>
    intro x1 x2 x3 x4 x5 D y Z h
    rw [fn_66_17] at h
    refine ay_t_loc (pc := 17) fe_66_17 rfl ?_
    refine ay_t_stk (pc := 19) (S' := [.int 25, .int x5]) fe_66_19 rfl ?_
    by_cases hc9 : 25 ≤ x5
    · rw [if_pos hc9] at h
      refine ay_t_pos (pc := 21) hc9 fe_66_21 rfl ?_
      refine ay_t_loc (pc := 125) fe_66_125 rfl ?_
      by_cases hc10 : ¬ x2 = 0
      · rw [if_pos hc10] at h
        refine ay_t_pos (pc := 126) hc10 fe_66_126 rfl ?_
        refine ay_t_loc (pc := 169) fe_66_169 rfl ?_
        refine ay_t_loc (pc := 170) fe_66_170 rfl ?_
        by_cases hc11 : ¬ x3 = x1
        · rw [if_pos hc11] at h
          refine ay_t_pos (pc := 171) hc11 fe_66_171 rfl ?_
          refine ay_t_stk (pc := 212) (S' := [.int 0]) fe_66_212 rfl ?_
          refine ay_t_loc (pc := 213) (L' := [some (.ref 0), some (.int x1), some (.int x2), some (.int x3), some (.int x4), some (.int 0), none, none]) fe_66_213 rfl ?_
          refine ay_t_stk (pc := 215) (S' := [.int 0]) fe_66_215 rfl ?_
          refine ay_t_loc (pc := 216) (L' := [some (.ref 0), some (.int x1), some (.int x2), some (.int x3), some (.int x4), some (.int 0), some (.int 0), none]) fe_66_216 rfl ?_
          exact ay_t_less (ay_ls (ay_ls (ay_ls (ay_ln (ay_ls (ay_ls (ay_ls (ay_ls ay_l0)))))))) (ev_66_218 _ _ _ _ _ _ _ _ _ h)
        · rw [if_neg hc11] at h
          refine ay_t_neg (pc := 171) hc11 fe_66_171 rfl ?_
          refine ay_t_loc (pc := 174) fe_66_174 rfl ?_
          refine ay_t_loc (pc := 175) fe_66_175 rfl ?_
          refine ay_t_stk (pc := 176) (S' := [.int 0, .int x1, .ref 0]) fe_66_176 rfl ?_
          refine ay_t_stk (pc := 177) (S' := [.int 1, .int 0, .int x1, .ref 0]) fe_66_177 rfl ?_
          cases hk14 : fn_59 x1 0 1 D with
          | none => rw [hk14] at h; cases h
          | some z =>
            obtain ⟨y12, k19, D13⟩ := z
            rw [hk14] at h
            dsimp only at h
            by_cases hz20 : k19 = 0
            case neg => rw [if_neg hz20] at h; cases h
            rw [if_pos hz20] at h
            subst hz20
            refine ay_t_call (pc := 178) (w := some (.int y12)) fe_66_178 (ay_args [.ref 0, .int x1, .int 0, .int 1] [] rfl rfl (Nat.le_of_ble_eq_true rfl) (Nat.le_of_ble_eq_true rfl)) (ay_rcvV at_0 rfl) (ev_59 hk14) ?_
            refine ay_t_loc (pc := 181) fe_66_181 rfl ?_
            by_cases hc15 : ¬ y12 = x1
            · rw [if_pos hc15] at h
              refine ay_t_pos (pc := 182) hc15 fe_66_182 rfl ?_
              refine ay_t_stk (pc := 212) (S' := [.int 0]) fe_66_212 rfl ?_
              refine ay_t_loc (pc := 213) (L' := [some (.ref 0), some (.int x1), some (.int x2), some (.int x3), some (.int x4), some (.int 0), none, none]) fe_66_213 rfl ?_
              refine ay_t_stk (pc := 215) (S' := [.int 0]) fe_66_215 rfl ?_
              refine ay_t_loc (pc := 216) (L' := [some (.ref 0), some (.int x1), some (.int x2), some (.int x3), some (.int x4), some (.int 0), some (.int 0), none]) fe_66_216 rfl ?_
              exact ay_t_less (ay_ls (ay_ls (ay_ls (ay_ln (ay_ls (ay_ls (ay_ls (ay_ls ay_l0)))))))) (ev_66_218 _ _ _ _ _ _ _ _ _ h)
            · rw [if_neg hc15] at h
              refine ay_t_neg (pc := 182) hc15 fe_66_182 rfl ?_
              refine ay_t_loc (pc := 185) fe_66_185 rfl ?_
              refine ay_t_loc (pc := 187) fe_66_187 rfl ?_
              refine ay_t_stk (pc := 189) (S' := [.int 1, .int x4, .int x4]) fe_66_189 rfl ?_
              refine ay_t_stk (pc := 190) (S' := [.int (x4 - 1), .int x4]) fe_66_190 rfl ?_
              refine ay_t_stk (pc := 191) (S' := [.int (x4 &&& (x4 - 1))]) fe_66_191 rfl ?_
              by_cases hc16 : ¬ (x4 &&& (x4 - 1)) = 0
              · rw [if_pos hc16] at h
                refine ay_t_pos (pc := 192) hc16 fe_66_192 rfl ?_
                refine ay_t_stk (pc := 212) (S' := [.int 0]) fe_66_212 rfl ?_
                refine ay_t_loc (pc := 213) (L' := [some (.ref 0), some (.int x1), some (.int x2), some (.int x3), some (.int x4), some (.int 0), none, none]) fe_66_213 rfl ?_
                refine ay_t_stk (pc := 215) (S' := [.int 0]) fe_66_215 rfl ?_
                refine ay_t_loc (pc := 216) (L' := [some (.ref 0), some (.int x1), some (.int x2), some (.int x3), some (.int x4), some (.int 0), some (.int 0), none]) fe_66_216 rfl ?_
                exact ay_t_less (ay_ls (ay_ls (ay_ls (ay_ln (ay_ls (ay_ls (ay_ls (ay_ls ay_l0)))))))) (ev_66_218 _ _ _ _ _ _ _ _ _ h)
              · rw [if_neg hc16] at h
                refine ay_t_neg (pc := 192) hc16 fe_66_192 rfl ?_
                refine ay_t_loc (pc := 195) fe_66_195 rfl ?_
                by_cases hc17 : x4 ≤ 0
                · rw [if_pos hc17] at h
                  refine ay_t_pos (pc := 197) hc17 fe_66_197 rfl ?_
                  refine ay_t_stk (pc := 212) (S' := [.int 0]) fe_66_212 rfl ?_
                  refine ay_t_loc (pc := 213) (L' := [some (.ref 0), some (.int x1), some (.int x2), some (.int x3), some (.int x4), some (.int 0), none, none]) fe_66_213 rfl ?_
                  refine ay_t_stk (pc := 215) (S' := [.int 0]) fe_66_215 rfl ?_
                  refine ay_t_loc (pc := 216) (L' := [some (.ref 0), some (.int x1), some (.int x2), some (.int x3), some (.int x4), some (.int 0), some (.int 0), none]) fe_66_216 rfl ?_
                  exact ay_t_less (ay_ls (ay_ls (ay_ls (ay_ln (ay_ls (ay_ls (ay_ls (ay_ls ay_l0)))))))) (ev_66_218 _ _ _ _ _ _ _ _ _ h)
                · rw [if_neg hc17] at h
                  refine ay_t_neg (pc := 197) hc17 fe_66_197 rfl ?_
                  refine ay_t_loc (pc := 200) fe_66_200 rfl ?_
                  refine ay_t_stk (pc := 202) (S' := [.int 4096, .int x4]) fe_66_202 rfl ?_
                  by_cases hc18 : 4096 < x4
                  · rw [if_pos hc18] at h
                    refine ay_t_pos (pc := 205) hc18 fe_66_205 rfl ?_
                    refine ay_t_stk (pc := 212) (S' := [.int 0]) fe_66_212 rfl ?_
                    refine ay_t_loc (pc := 213) (L' := [some (.ref 0), some (.int x1), some (.int x2), some (.int x3), some (.int x4), some (.int 0), none, none]) fe_66_213 rfl ?_
                    refine ay_t_stk (pc := 215) (S' := [.int 0]) fe_66_215 rfl ?_
                    refine ay_t_loc (pc := 216) (L' := [some (.ref 0), some (.int x1), some (.int x2), some (.int x3), some (.int x4), some (.int 0), some (.int 0), none]) fe_66_216 rfl ?_
                    exact ay_t_less (ay_ls (ay_ls (ay_ls (ay_ln (ay_ls (ay_ls (ay_ls (ay_ls ay_l0)))))))) (ev_66_218 _ _ _ _ _ _ _ _ _ h)
                  · rw [if_neg hc18] at h
                    refine ay_t_neg (pc := 205) hc18 fe_66_205 rfl ?_
                    refine ay_t_stk (pc := 208) (S' := [.int 1]) fe_66_208 rfl ?_
                    refine ay_t_br (pc := 209) (pc' := 213) fe_66_209 rfl ?_
                    refine ay_t_loc (pc := 213) (L' := [some (.ref 0), some (.int x1), some (.int x2), some (.int x3), some (.int x4), some (.int 1), none, none]) fe_66_213 rfl ?_
                    refine ay_t_stk (pc := 215) (S' := [.int 0]) fe_66_215 rfl ?_
                    refine ay_t_loc (pc := 216) (L' := [some (.ref 0), some (.int x1), some (.int x2), some (.int x3), some (.int x4), some (.int 1), some (.int 0), none]) fe_66_216 rfl ?_
                    exact ay_t_less (ay_ls (ay_ls (ay_ls (ay_ln (ay_ls (ay_ls (ay_ls (ay_ls ay_l0)))))))) (ev_66_218 _ _ _ _ _ _ _ _ _ h)
      · rw [if_neg hc10] at h
        refine ay_t_neg (pc := 126) hc10 fe_66_126 rfl ?_
        refine ay_t_loc (pc := 129) fe_66_129 rfl ?_
        by_cases hc21 : ¬ x3 = 0
        · rw [if_pos hc21] at h
          refine ay_t_pos (pc := 130) hc21 fe_66_130 rfl ?_
          refine ay_t_stk (pc := 167) (S' := [.int 0]) fe_66_167 rfl ?_
          cases h
          exact ay_t_iret fe_66_168 rfl rfl
        · rw [if_neg hc21] at h
          refine ay_t_neg (pc := 130) hc21 fe_66_130 rfl ?_
          refine ay_t_loc (pc := 133) fe_66_133 rfl ?_
          refine ay_t_stk (pc := 135) (S' := [.int (-1), .int x4]) fe_66_135 rfl ?_
          by_cases hc22 : ¬ x4 = (-1)
          · rw [if_pos hc22] at h
            refine ay_t_pos (pc := 136) hc22 fe_66_136 rfl ?_
            refine ay_t_stk (pc := 167) (S' := [.int 0]) fe_66_167 rfl ?_
            cases h
            exact ay_t_iret fe_66_168 rfl rfl
          · rw [if_neg hc22] at h
            refine ay_t_neg (pc := 136) hc22 fe_66_136 rfl ?_
            refine ay_t_loc (pc := 139) fe_66_139 rfl ?_
            refine ay_t_loc (pc := 140) fe_66_140 rfl ?_
            refine ay_t_stk (pc := 141) (S' := [.int 1000, .int x1, .ref 0]) fe_66_141 rfl ?_
            refine ay_t_stk (pc := 144) (S' := [.int (x1 - x1 / 1000 * 1000), .ref 0]) fe_66_144 (ay_irem (by decide)) ?_
            cases hk25 : fn_63 (x1 - x1 / 1000 * 1000) D with
            | none => rw [hk25] at h; cases h
            | some z =>
              obtain ⟨y23, k33, D24⟩ := z
              rw [hk25] at h
              dsimp only at h
              by_cases hz34 : k33 = 0
              case neg => rw [if_neg hz34] at h; cases h
              rw [if_pos hz34] at h
              subst hz34
              refine ay_t_call (pc := 145) (w := some (.int y23)) fe_66_145 (ay_args [.ref 0, .int (x1 - x1 / 1000 * 1000)] [] rfl rfl (Nat.le_of_ble_eq_true rfl) (Nat.le_of_ble_eq_true rfl)) (ay_rcvV at_0 rfl) (ev_63 hk25) ?_
              refine ay_t_stk (pc := 148) (S' := [.int (-1), .int y23]) fe_66_148 rfl ?_
              by_cases hc26 : ¬ y23 = (-1)
              · rw [if_pos hc26] at h
                refine ay_t_pos (pc := 149) hc26 fe_66_149 rfl ?_
                refine ay_t_stk (pc := 167) (S' := [.int 0]) fe_66_167 rfl ?_
                cases h
                exact ay_t_iret fe_66_168 rfl rfl
              · rw [if_neg hc26] at h
                refine ay_t_neg (pc := 149) hc26 fe_66_149 rfl ?_
                refine ay_t_loc (pc := 152) fe_66_152 rfl ?_
                refine ay_t_loc (pc := 153) fe_66_153 rfl ?_
                refine ay_t_stk (pc := 154) (S' := [.int 5, .int x1, .ref 0]) fe_66_154 rfl ?_
                refine ay_t_stk (pc := 155) (S' := [.int (x1 - x1 / 5 * 5), .ref 0]) fe_66_155 (ay_irem (by decide)) ?_
                cases hk29 : fn_65 (x1 - x1 / 5 * 5) D24 with
                | none => rw [hk29] at h; cases h
                | some z =>
                  obtain ⟨y27, k31, D28⟩ := z
                  rw [hk29] at h
                  dsimp only at h
                  by_cases hz32 : k31 = 0
                  case neg => rw [if_neg hz32] at h; cases h
                  rw [if_pos hz32] at h
                  subst hz32
                  refine ay_t_call (pc := 156) (w := some (.int y27)) fe_66_156 (ay_args [.ref 0, .int (x1 - x1 / 5 * 5)] [] rfl rfl (Nat.le_of_ble_eq_true rfl) (Nat.le_of_ble_eq_true rfl)) (ay_rcvV at_0 rfl) (ev_65 hk29) ?_
                  refine ay_t_stk (pc := 159) (S' := [.int (-1), .int y27]) fe_66_159 rfl ?_
                  by_cases hc30 : ¬ y27 = (-1)
                  · rw [if_pos hc30] at h
                    refine ay_t_pos (pc := 160) hc30 fe_66_160 rfl ?_
                    refine ay_t_stk (pc := 167) (S' := [.int 0]) fe_66_167 rfl ?_
                    cases h
                    exact ay_t_iret fe_66_168 rfl rfl
                  · rw [if_neg hc30] at h
                    refine ay_t_neg (pc := 160) hc30 fe_66_160 rfl ?_
                    refine ay_t_stk (pc := 163) (S' := [.int 1]) fe_66_163 rfl ?_
                    refine ay_t_br (pc := 164) (pc' := 168) fe_66_164 rfl ?_
                    cases h
                    exact ay_t_iret fe_66_168 rfl rfl
    · rw [if_neg hc9] at h
      refine ay_t_neg (pc := 21) hc9 fe_66_21 rfl ?_
      refine ay_t_loc (pc := 24) fe_66_24 rfl ?_
      refine ay_t_loc (pc := 26) fe_66_26 rfl ?_
      by_cases hc35 : x5 < x2
      · rw [if_pos hc35] at h
        refine ay_t_pos (pc := 27) hc35 fe_66_27 rfl ?_
        refine ay_t_loc (pc := 37) fe_66_37 rfl ?_
        refine ay_t_loc (pc := 38) fe_66_38 rfl ?_
        refine ay_t_loc (pc := 39) fe_66_39 rfl ?_
        refine ay_t_stk (pc := 41) (S' := [.int 0, .int x5, .int x1, .ref 0]) fe_66_41 rfl ?_
        cases hk38 : fn_59 x1 x5 0 D with
        | none => rw [hk38] at h; cases h
        | some z =>
          obtain ⟨y36, k100, D37⟩ := z
          rw [hk38] at h
          dsimp only at h
          by_cases hz101 : k100 = 0
          case neg => rw [if_neg hz101] at h; cases h
          rw [if_pos hz101] at h
          subst hz101
          refine ay_t_call (pc := 42) (w := some (.int y36)) fe_66_42 (ay_args [.ref 0, .int x1, .int x5, .int 0] [] rfl rfl (Nat.le_of_ble_eq_true rfl) (Nat.le_of_ble_eq_true rfl)) (ay_rcvV at_0 rfl) (ev_59 hk38) ?_
          refine ay_t_loc (pc := 45) (L' := [some (.ref 0), some (.int x1), some (.int x2), some (.int x3), some (.int x4), some (.int x5), some (.int y36), none]) fe_66_45 rfl ?_
          refine ay_t_loc (pc := 47) fe_66_47 rfl ?_
          refine ay_t_loc (pc := 48) fe_66_48 rfl ?_
          refine ay_t_stk (pc := 50) (S' := [.int 19, .int x5, .int x3]) fe_66_50 rfl ?_
          by_cases hc39 : x5 ≤ 19
          · rw [if_pos hc39] at h
            refine ay_t_pos (pc := 52) hc39 fe_66_52 rfl ?_
            refine ay_t_stk (pc := 60) (S' := [.int 0, .int x3]) fe_66_60 rfl ?_
            refine ay_t_stk (pc := 61) (S' := [.int (x3 + 0)]) fe_66_61 rfl ?_
            refine ay_t_loc (pc := 62) (L' := [some (.ref 0), some (.int x1), some (.int x2), some (.int (x3 + 0)), some (.int x4), some (.int x5), some (.int y36), none]) fe_66_62 rfl ?_
            refine ay_t_loc (pc := 63) fe_66_63 rfl ?_
            refine ay_t_loc (pc := 65) fe_66_65 rfl ?_
            refine ay_t_loc (pc := 66) fe_66_66 rfl ?_
            refine ay_t_loc (pc := 67) fe_66_67 rfl ?_
            refine ay_t_stk (pc := 69) (S' := [.int 1, .int x5, .int x1, .ref 0, .int y36]) fe_66_69 rfl ?_
            cases hk42 : fn_59 x1 x5 1 D37 with
            | none => rw [hk42] at h; cases h
            | some z =>
              obtain ⟨y40, k68, D41⟩ := z
              rw [hk42] at h
              dsimp only at h
              by_cases hz69 : k68 = 0
              case neg => rw [if_neg hz69] at h; cases h
              rw [if_pos hz69] at h
              subst hz69
              refine ay_t_call (pc := 70) (w := some (.int y40)) fe_66_70 (ay_args [.ref 0, .int x1, .int x5, .int 1] [.int y36] rfl rfl (Nat.le_of_ble_eq_true rfl) (Nat.le_of_ble_eq_true rfl)) (ay_rcvV at_0 rfl) (ev_59 hk42) ?_
              by_cases hc43 : ¬ y36 = y40
              · rw [if_pos hc43] at h
                refine ay_t_pos (pc := 73) hc43 fe_66_73 rfl ?_
                refine ay_t_stk (pc := 117) (S' := [.int 0]) fe_66_117 rfl ?_
                cases h
                exact ay_t_iret fe_66_118 rfl rfl
              · rw [if_neg hc43] at h
                refine ay_t_neg (pc := 73) hc43 fe_66_73 rfl ?_
                refine ay_t_loc (pc := 76) fe_66_76 rfl ?_
                refine ay_t_loc (pc := 78) fe_66_78 rfl ?_
                by_cases hc44 : x2 ≤ x5
                · rw [if_pos hc44] at h
                  refine ay_t_pos (pc := 79) hc44 fe_66_79 rfl ?_
                  refine ay_t_loc (pc := 104) fe_66_104 rfl ?_
                  refine ay_t_stk (pc := 105) (S' := [.int 0, .ref 0]) fe_66_105 rfl ?_
                  refine ay_t_loc (pc := 106) fe_66_106 rfl ?_
                  refine ay_t_loc (pc := 108) fe_66_108 rfl ?_
                  refine ay_t_stk (pc := 109) (S' := [.int 2, .int x1, .int x5, .int 0, .ref 0]) fe_66_109 rfl ?_
                  refine ay_t_stk (pc := 110) (S' := [.int (x1 - x1 / 2 * 2), .int x5, .int 0, .ref 0]) fe_66_110 (ay_irem (by decide)) ?_
                  cases hk47 : fn_59 0 x5 (x1 - x1 / 2 * 2) D41 with
                  | none => rw [hk47] at h; cases h
                  | some z =>
                    obtain ⟨y45, k49, D46⟩ := z
                    rw [hk47] at h
                    dsimp only at h
                    by_cases hz50 : k49 = 0
                    case neg => rw [if_neg hz50] at h; cases h
                    rw [if_pos hz50] at h
                    subst hz50
                    refine ay_t_call (pc := 111) (w := some (.int y45)) fe_66_111 (ay_args [.ref 0, .int 0, .int x5, .int (x1 - x1 / 2 * 2)] [] rfl rfl (Nat.le_of_ble_eq_true rfl) (Nat.le_of_ble_eq_true rfl)) (ay_rcvV at_0 rfl) (ev_59 hk47) ?_
                    by_cases hc48 : y45 = 0
                    · rw [if_pos hc48] at h
                      refine ay_t_pos (pc := 114) hc48 fe_66_114 rfl ?_
                      refine ay_t_loc (pc := 119) (L' := [some (.ref 0), some (.int x1), some (.int x2), some (.int (x3 + 0)), some (.int x4), some (.int (x5 + 1)), some (.int y36), none]) fe_66_119 rfl ?_
                      refine ay_t_br (pc := 122) (pc' := 17) fe_66_122 rfl ?_
                      exact ay_t_less (ay_ls (ay_ls (ay_ls (ay_ls (ay_ls (ay_ls (ay_ln (ay_ls ay_l0)))))))) (ih _ _ _ _ _ _ _ _ h)
                    · rw [if_neg hc48] at h
                      refine ay_t_neg (pc := 114) hc48 fe_66_114 rfl ?_
                      refine ay_t_stk (pc := 117) (S' := [.int 0]) fe_66_117 rfl ?_
                      cases h
                      exact ay_t_iret fe_66_118 rfl rfl
                · rw [if_neg hc44] at h
                  refine ay_t_neg (pc := 79) hc44 fe_66_79 rfl ?_
                  refine ay_t_loc (pc := 82) fe_66_82 rfl ?_
                  refine ay_t_loc (pc := 83) fe_66_83 rfl ?_
                  refine ay_t_loc (pc := 84) fe_66_84 rfl ?_
                  cases hk53 : fn_61 x1 x5 D41 with
                  | none => rw [hk53] at h; cases h
                  | some z =>
                    obtain ⟨y51, k66, D52⟩ := z
                    rw [hk53] at h
                    dsimp only at h
                    by_cases hz67 : k66 = 0
                    case neg => rw [if_neg hz67] at h; cases h
                    rw [if_pos hz67] at h
                    subst hz67
                    refine ay_t_call (pc := 86) (w := some (.int y51)) fe_66_86 (ay_args [.ref 0, .int x1, .int x5] [] rfl rfl (Nat.le_of_ble_eq_true rfl) (Nat.le_of_ble_eq_true rfl)) (ay_rcvV at_0 rfl) (ev_61 hk53) ?_
                    refine ay_t_loc (pc := 89) fe_66_89 rfl ?_
                    refine ay_t_loc (pc := 90) fe_66_90 rfl ?_
                    refine ay_t_stk (pc := 92) (S' := [.int 0, .int x5, .ref 0, .int y51]) fe_66_92 rfl ?_
                    cases hk56 : fn_44 x5 0 D52 with
                    | none => rw [hk56] at h; cases h
                    | some z =>
                      obtain ⟨y54, k64, D55⟩ := z
                      rw [hk56] at h
                      dsimp only at h
                      by_cases hz65 : k64 = 0
                      case neg => rw [if_neg hz65] at h; cases h
                      rw [if_pos hz65] at h
                      subst hz65
                      refine ay_t_call (pc := 93) (w := some (.int y54)) fe_66_93 (ay_args [.ref 0, .int x5, .int 0] [.int y51] rfl rfl (Nat.le_of_ble_eq_true rfl) (Nat.le_of_ble_eq_true rfl)) (ay_rcvV at_0 rfl) (ev_44 hk56) ?_
                      refine ay_t_loc (pc := 96) fe_66_96 rfl ?_
                      refine ay_t_stk (pc := 98) (S' := [.int (y54 + y36), .int y51]) fe_66_98 rfl ?_
                      refine ay_t_stk (pc := 99) (S' := [.int 2, .int (y54 + y36), .int y51]) fe_66_99 rfl ?_
                      refine ay_t_stk (pc := 100) (S' := [.int ((y54 + y36) - (y54 + y36) / 2 * 2), .int y51]) fe_66_100 (ay_irem (by decide)) ?_
                      by_cases hc57 : ¬ y51 = ((y54 + y36) - (y54 + y36) / 2 * 2)
                      · rw [if_pos hc57] at h
                        refine ay_t_pos (pc := 101) hc57 fe_66_101 rfl ?_
                        refine ay_t_stk (pc := 117) (S' := [.int 0]) fe_66_117 rfl ?_
                        cases h
                        exact ay_t_iret fe_66_118 rfl rfl
                      · rw [if_neg hc57] at h
                        refine ay_t_neg (pc := 101) hc57 fe_66_101 rfl ?_
                        refine ay_t_loc (pc := 104) fe_66_104 rfl ?_
                        refine ay_t_stk (pc := 105) (S' := [.int 0, .ref 0]) fe_66_105 rfl ?_
                        refine ay_t_loc (pc := 106) fe_66_106 rfl ?_
                        refine ay_t_loc (pc := 108) fe_66_108 rfl ?_
                        refine ay_t_stk (pc := 109) (S' := [.int 2, .int x1, .int x5, .int 0, .ref 0]) fe_66_109 rfl ?_
                        refine ay_t_stk (pc := 110) (S' := [.int (x1 - x1 / 2 * 2), .int x5, .int 0, .ref 0]) fe_66_110 (ay_irem (by decide)) ?_
                        cases hk60 : fn_59 0 x5 (x1 - x1 / 2 * 2) D55 with
                        | none => rw [hk60] at h; cases h
                        | some z =>
                          obtain ⟨y58, k62, D59⟩ := z
                          rw [hk60] at h
                          dsimp only at h
                          by_cases hz63 : k62 = 0
                          case neg => rw [if_neg hz63] at h; cases h
                          rw [if_pos hz63] at h
                          subst hz63
                          refine ay_t_call (pc := 111) (w := some (.int y58)) fe_66_111 (ay_args [.ref 0, .int 0, .int x5, .int (x1 - x1 / 2 * 2)] [] rfl rfl (Nat.le_of_ble_eq_true rfl) (Nat.le_of_ble_eq_true rfl)) (ay_rcvV at_0 rfl) (ev_59 hk60) ?_
                          by_cases hc61 : y58 = 0
                          · rw [if_pos hc61] at h
                            refine ay_t_pos (pc := 114) hc61 fe_66_114 rfl ?_
                            refine ay_t_loc (pc := 119) (L' := [some (.ref 0), some (.int x1), some (.int x2), some (.int (x3 + 0)), some (.int x4), some (.int (x5 + 1)), some (.int y36), none]) fe_66_119 rfl ?_
                            refine ay_t_br (pc := 122) (pc' := 17) fe_66_122 rfl ?_
                            exact ay_t_less (ay_ls (ay_ls (ay_ls (ay_ls (ay_ls (ay_ls (ay_ln (ay_ls ay_l0)))))))) (ih _ _ _ _ _ _ _ _ h)
                          · rw [if_neg hc61] at h
                            refine ay_t_neg (pc := 114) hc61 fe_66_114 rfl ?_
                            refine ay_t_stk (pc := 117) (S' := [.int 0]) fe_66_117 rfl ?_
                            cases h
                            exact ay_t_iret fe_66_118 rfl rfl
          · rw [if_neg hc39] at h
            refine ay_t_neg (pc := 52) hc39 fe_66_52 rfl ?_
            refine ay_t_loc (pc := 55) fe_66_55 rfl ?_
            refine ay_t_br (pc := 57) (pc' := 61) fe_66_57 rfl ?_
            refine ay_t_stk (pc := 61) (S' := [.int (x3 + y36)]) fe_66_61 rfl ?_
            refine ay_t_loc (pc := 62) (L' := [some (.ref 0), some (.int x1), some (.int x2), some (.int (x3 + y36)), some (.int x4), some (.int x5), some (.int y36), none]) fe_66_62 rfl ?_
            refine ay_t_loc (pc := 63) fe_66_63 rfl ?_
            refine ay_t_loc (pc := 65) fe_66_65 rfl ?_
            refine ay_t_loc (pc := 66) fe_66_66 rfl ?_
            refine ay_t_loc (pc := 67) fe_66_67 rfl ?_
            refine ay_t_stk (pc := 69) (S' := [.int 1, .int x5, .int x1, .ref 0, .int y36]) fe_66_69 rfl ?_
            cases hk72 : fn_59 x1 x5 1 D37 with
            | none => rw [hk72] at h; cases h
            | some z =>
              obtain ⟨y70, k98, D71⟩ := z
              rw [hk72] at h
              dsimp only at h
              by_cases hz99 : k98 = 0
              case neg => rw [if_neg hz99] at h; cases h
              rw [if_pos hz99] at h
              subst hz99
              refine ay_t_call (pc := 70) (w := some (.int y70)) fe_66_70 (ay_args [.ref 0, .int x1, .int x5, .int 1] [.int y36] rfl rfl (Nat.le_of_ble_eq_true rfl) (Nat.le_of_ble_eq_true rfl)) (ay_rcvV at_0 rfl) (ev_59 hk72) ?_
              by_cases hc73 : ¬ y36 = y70
              · rw [if_pos hc73] at h
                refine ay_t_pos (pc := 73) hc73 fe_66_73 rfl ?_
                refine ay_t_stk (pc := 117) (S' := [.int 0]) fe_66_117 rfl ?_
                cases h
                exact ay_t_iret fe_66_118 rfl rfl
              · rw [if_neg hc73] at h
                refine ay_t_neg (pc := 73) hc73 fe_66_73 rfl ?_
                refine ay_t_loc (pc := 76) fe_66_76 rfl ?_
                refine ay_t_loc (pc := 78) fe_66_78 rfl ?_
                by_cases hc74 : x2 ≤ x5
                · rw [if_pos hc74] at h
                  refine ay_t_pos (pc := 79) hc74 fe_66_79 rfl ?_
                  refine ay_t_loc (pc := 104) fe_66_104 rfl ?_
                  refine ay_t_stk (pc := 105) (S' := [.int 0, .ref 0]) fe_66_105 rfl ?_
                  refine ay_t_loc (pc := 106) fe_66_106 rfl ?_
                  refine ay_t_loc (pc := 108) fe_66_108 rfl ?_
                  refine ay_t_stk (pc := 109) (S' := [.int 2, .int x1, .int x5, .int 0, .ref 0]) fe_66_109 rfl ?_
                  refine ay_t_stk (pc := 110) (S' := [.int (x1 - x1 / 2 * 2), .int x5, .int 0, .ref 0]) fe_66_110 (ay_irem (by decide)) ?_
                  cases hk77 : fn_59 0 x5 (x1 - x1 / 2 * 2) D71 with
                  | none => rw [hk77] at h; cases h
                  | some z =>
                    obtain ⟨y75, k79, D76⟩ := z
                    rw [hk77] at h
                    dsimp only at h
                    by_cases hz80 : k79 = 0
                    case neg => rw [if_neg hz80] at h; cases h
                    rw [if_pos hz80] at h
                    subst hz80
                    refine ay_t_call (pc := 111) (w := some (.int y75)) fe_66_111 (ay_args [.ref 0, .int 0, .int x5, .int (x1 - x1 / 2 * 2)] [] rfl rfl (Nat.le_of_ble_eq_true rfl) (Nat.le_of_ble_eq_true rfl)) (ay_rcvV at_0 rfl) (ev_59 hk77) ?_
                    by_cases hc78 : y75 = 0
                    · rw [if_pos hc78] at h
                      refine ay_t_pos (pc := 114) hc78 fe_66_114 rfl ?_
                      refine ay_t_loc (pc := 119) (L' := [some (.ref 0), some (.int x1), some (.int x2), some (.int (x3 + y36)), some (.int x4), some (.int (x5 + 1)), some (.int y36), none]) fe_66_119 rfl ?_
                      refine ay_t_br (pc := 122) (pc' := 17) fe_66_122 rfl ?_
                      exact ay_t_less (ay_ls (ay_ls (ay_ls (ay_ls (ay_ls (ay_ls (ay_ln (ay_ls ay_l0)))))))) (ih _ _ _ _ _ _ _ _ h)
                    · rw [if_neg hc78] at h
                      refine ay_t_neg (pc := 114) hc78 fe_66_114 rfl ?_
                      refine ay_t_stk (pc := 117) (S' := [.int 0]) fe_66_117 rfl ?_
                      cases h
                      exact ay_t_iret fe_66_118 rfl rfl
                · rw [if_neg hc74] at h
                  refine ay_t_neg (pc := 79) hc74 fe_66_79 rfl ?_
                  refine ay_t_loc (pc := 82) fe_66_82 rfl ?_
                  refine ay_t_loc (pc := 83) fe_66_83 rfl ?_
                  refine ay_t_loc (pc := 84) fe_66_84 rfl ?_
                  cases hk83 : fn_61 x1 x5 D71 with
                  | none => rw [hk83] at h; cases h
                  | some z =>
                    obtain ⟨y81, k96, D82⟩ := z
                    rw [hk83] at h
                    dsimp only at h
                    by_cases hz97 : k96 = 0
                    case neg => rw [if_neg hz97] at h; cases h
                    rw [if_pos hz97] at h
                    subst hz97
                    refine ay_t_call (pc := 86) (w := some (.int y81)) fe_66_86 (ay_args [.ref 0, .int x1, .int x5] [] rfl rfl (Nat.le_of_ble_eq_true rfl) (Nat.le_of_ble_eq_true rfl)) (ay_rcvV at_0 rfl) (ev_61 hk83) ?_
                    refine ay_t_loc (pc := 89) fe_66_89 rfl ?_
                    refine ay_t_loc (pc := 90) fe_66_90 rfl ?_
                    refine ay_t_stk (pc := 92) (S' := [.int 0, .int x5, .ref 0, .int y81]) fe_66_92 rfl ?_
                    cases hk86 : fn_44 x5 0 D82 with
                    | none => rw [hk86] at h; cases h
                    | some z =>
                      obtain ⟨y84, k94, D85⟩ := z
                      rw [hk86] at h
                      dsimp only at h
                      by_cases hz95 : k94 = 0
                      case neg => rw [if_neg hz95] at h; cases h
                      rw [if_pos hz95] at h
                      subst hz95
                      refine ay_t_call (pc := 93) (w := some (.int y84)) fe_66_93 (ay_args [.ref 0, .int x5, .int 0] [.int y81] rfl rfl (Nat.le_of_ble_eq_true rfl) (Nat.le_of_ble_eq_true rfl)) (ay_rcvV at_0 rfl) (ev_44 hk86) ?_
                      refine ay_t_loc (pc := 96) fe_66_96 rfl ?_
                      refine ay_t_stk (pc := 98) (S' := [.int (y84 + y36), .int y81]) fe_66_98 rfl ?_
                      refine ay_t_stk (pc := 99) (S' := [.int 2, .int (y84 + y36), .int y81]) fe_66_99 rfl ?_
                      refine ay_t_stk (pc := 100) (S' := [.int ((y84 + y36) - (y84 + y36) / 2 * 2), .int y81]) fe_66_100 (ay_irem (by decide)) ?_
                      by_cases hc87 : ¬ y81 = ((y84 + y36) - (y84 + y36) / 2 * 2)
                      · rw [if_pos hc87] at h
                        refine ay_t_pos (pc := 101) hc87 fe_66_101 rfl ?_
                        refine ay_t_stk (pc := 117) (S' := [.int 0]) fe_66_117 rfl ?_
                        cases h
                        exact ay_t_iret fe_66_118 rfl rfl
                      · rw [if_neg hc87] at h
                        refine ay_t_neg (pc := 101) hc87 fe_66_101 rfl ?_
                        refine ay_t_loc (pc := 104) fe_66_104 rfl ?_
                        refine ay_t_stk (pc := 105) (S' := [.int 0, .ref 0]) fe_66_105 rfl ?_
                        refine ay_t_loc (pc := 106) fe_66_106 rfl ?_
                        refine ay_t_loc (pc := 108) fe_66_108 rfl ?_
                        refine ay_t_stk (pc := 109) (S' := [.int 2, .int x1, .int x5, .int 0, .ref 0]) fe_66_109 rfl ?_
                        refine ay_t_stk (pc := 110) (S' := [.int (x1 - x1 / 2 * 2), .int x5, .int 0, .ref 0]) fe_66_110 (ay_irem (by decide)) ?_
                        cases hk90 : fn_59 0 x5 (x1 - x1 / 2 * 2) D85 with
                        | none => rw [hk90] at h; cases h
                        | some z =>
                          obtain ⟨y88, k92, D89⟩ := z
                          rw [hk90] at h
                          dsimp only at h
                          by_cases hz93 : k92 = 0
                          case neg => rw [if_neg hz93] at h; cases h
                          rw [if_pos hz93] at h
                          subst hz93
                          refine ay_t_call (pc := 111) (w := some (.int y88)) fe_66_111 (ay_args [.ref 0, .int 0, .int x5, .int (x1 - x1 / 2 * 2)] [] rfl rfl (Nat.le_of_ble_eq_true rfl) (Nat.le_of_ble_eq_true rfl)) (ay_rcvV at_0 rfl) (ev_59 hk90) ?_
                          by_cases hc91 : y88 = 0
                          · rw [if_pos hc91] at h
                            refine ay_t_pos (pc := 114) hc91 fe_66_114 rfl ?_
                            refine ay_t_loc (pc := 119) (L' := [some (.ref 0), some (.int x1), some (.int x2), some (.int (x3 + y36)), some (.int x4), some (.int (x5 + 1)), some (.int y36), none]) fe_66_119 rfl ?_
                            refine ay_t_br (pc := 122) (pc' := 17) fe_66_122 rfl ?_
                            exact ay_t_less (ay_ls (ay_ls (ay_ls (ay_ls (ay_ls (ay_ls (ay_ln (ay_ls ay_l0)))))))) (ih _ _ _ _ _ _ _ _ h)
                          · rw [if_neg hc91] at h
                            refine ay_t_neg (pc := 114) hc91 fe_66_114 rfl ?_
                            refine ay_t_stk (pc := 117) (S' := [.int 0]) fe_66_117 rfl ?_
                            cases h
                            exact ay_t_iret fe_66_118 rfl rfl
      · rw [if_neg hc35] at h
        refine ay_t_neg (pc := 27) hc35 fe_66_27 rfl ?_
        refine ay_t_loc (pc := 30) fe_66_30 rfl ?_
        refine ay_t_stk (pc := 32) (S' := [.int 19, .int x5]) fe_66_32 rfl ?_
        by_cases hc102 : x5 ≤ 19
        · rw [if_pos hc102] at h
          refine ay_t_pos (pc := 34) hc102 fe_66_34 rfl ?_
          refine ay_t_loc (pc := 119) (L' := [some (.ref 0), some (.int x1), some (.int x2), some (.int x3), some (.int x4), some (.int (x5 + 1)), none, none]) fe_66_119 rfl ?_
          refine ay_t_br (pc := 122) (pc' := 17) fe_66_122 rfl ?_
          exact ay_t_less (ay_ls (ay_ls (ay_ls (ay_ls (ay_ls (ay_ls (ay_ls (ay_ls ay_l0)))))))) (ih _ _ _ _ _ _ _ _ h)
        · rw [if_neg hc102] at h
          refine ay_t_neg (pc := 34) hc102 fe_66_34 rfl ?_
          refine ay_t_loc (pc := 37) fe_66_37 rfl ?_
          refine ay_t_loc (pc := 38) fe_66_38 rfl ?_
          refine ay_t_loc (pc := 39) fe_66_39 rfl ?_
          refine ay_t_stk (pc := 41) (S' := [.int 0, .int x5, .int x1, .ref 0]) fe_66_41 rfl ?_
          cases hk105 : fn_59 x1 x5 0 D with
          | none => rw [hk105] at h; cases h
          | some z =>
            obtain ⟨y103, k167, D104⟩ := z
            rw [hk105] at h
            dsimp only at h
            by_cases hz168 : k167 = 0
            case neg => rw [if_neg hz168] at h; cases h
            rw [if_pos hz168] at h
            subst hz168
            refine ay_t_call (pc := 42) (w := some (.int y103)) fe_66_42 (ay_args [.ref 0, .int x1, .int x5, .int 0] [] rfl rfl (Nat.le_of_ble_eq_true rfl) (Nat.le_of_ble_eq_true rfl)) (ay_rcvV at_0 rfl) (ev_59 hk105) ?_
            refine ay_t_loc (pc := 45) (L' := [some (.ref 0), some (.int x1), some (.int x2), some (.int x3), some (.int x4), some (.int x5), some (.int y103), none]) fe_66_45 rfl ?_
            refine ay_t_loc (pc := 47) fe_66_47 rfl ?_
            refine ay_t_loc (pc := 48) fe_66_48 rfl ?_
            refine ay_t_stk (pc := 50) (S' := [.int 19, .int x5, .int x3]) fe_66_50 rfl ?_
            by_cases hc106 : x5 ≤ 19
            · rw [if_pos hc106] at h
              refine ay_t_pos (pc := 52) hc106 fe_66_52 rfl ?_
              refine ay_t_stk (pc := 60) (S' := [.int 0, .int x3]) fe_66_60 rfl ?_
              refine ay_t_stk (pc := 61) (S' := [.int (x3 + 0)]) fe_66_61 rfl ?_
              refine ay_t_loc (pc := 62) (L' := [some (.ref 0), some (.int x1), some (.int x2), some (.int (x3 + 0)), some (.int x4), some (.int x5), some (.int y103), none]) fe_66_62 rfl ?_
              refine ay_t_loc (pc := 63) fe_66_63 rfl ?_
              refine ay_t_loc (pc := 65) fe_66_65 rfl ?_
              refine ay_t_loc (pc := 66) fe_66_66 rfl ?_
              refine ay_t_loc (pc := 67) fe_66_67 rfl ?_
              refine ay_t_stk (pc := 69) (S' := [.int 1, .int x5, .int x1, .ref 0, .int y103]) fe_66_69 rfl ?_
              cases hk109 : fn_59 x1 x5 1 D104 with
              | none => rw [hk109] at h; cases h
              | some z =>
                obtain ⟨y107, k135, D108⟩ := z
                rw [hk109] at h
                dsimp only at h
                by_cases hz136 : k135 = 0
                case neg => rw [if_neg hz136] at h; cases h
                rw [if_pos hz136] at h
                subst hz136
                refine ay_t_call (pc := 70) (w := some (.int y107)) fe_66_70 (ay_args [.ref 0, .int x1, .int x5, .int 1] [.int y103] rfl rfl (Nat.le_of_ble_eq_true rfl) (Nat.le_of_ble_eq_true rfl)) (ay_rcvV at_0 rfl) (ev_59 hk109) ?_
                by_cases hc110 : ¬ y103 = y107
                · rw [if_pos hc110] at h
                  refine ay_t_pos (pc := 73) hc110 fe_66_73 rfl ?_
                  refine ay_t_stk (pc := 117) (S' := [.int 0]) fe_66_117 rfl ?_
                  cases h
                  exact ay_t_iret fe_66_118 rfl rfl
                · rw [if_neg hc110] at h
                  refine ay_t_neg (pc := 73) hc110 fe_66_73 rfl ?_
                  refine ay_t_loc (pc := 76) fe_66_76 rfl ?_
                  refine ay_t_loc (pc := 78) fe_66_78 rfl ?_
                  by_cases hc111 : x2 ≤ x5
                  · rw [if_pos hc111] at h
                    refine ay_t_pos (pc := 79) hc111 fe_66_79 rfl ?_
                    refine ay_t_loc (pc := 104) fe_66_104 rfl ?_
                    refine ay_t_stk (pc := 105) (S' := [.int 0, .ref 0]) fe_66_105 rfl ?_
                    refine ay_t_loc (pc := 106) fe_66_106 rfl ?_
                    refine ay_t_loc (pc := 108) fe_66_108 rfl ?_
                    refine ay_t_stk (pc := 109) (S' := [.int 2, .int x1, .int x5, .int 0, .ref 0]) fe_66_109 rfl ?_
                    refine ay_t_stk (pc := 110) (S' := [.int (x1 - x1 / 2 * 2), .int x5, .int 0, .ref 0]) fe_66_110 (ay_irem (by decide)) ?_
                    cases hk114 : fn_59 0 x5 (x1 - x1 / 2 * 2) D108 with
                    | none => rw [hk114] at h; cases h
                    | some z =>
                      obtain ⟨y112, k116, D113⟩ := z
                      rw [hk114] at h
                      dsimp only at h
                      by_cases hz117 : k116 = 0
                      case neg => rw [if_neg hz117] at h; cases h
                      rw [if_pos hz117] at h
                      subst hz117
                      refine ay_t_call (pc := 111) (w := some (.int y112)) fe_66_111 (ay_args [.ref 0, .int 0, .int x5, .int (x1 - x1 / 2 * 2)] [] rfl rfl (Nat.le_of_ble_eq_true rfl) (Nat.le_of_ble_eq_true rfl)) (ay_rcvV at_0 rfl) (ev_59 hk114) ?_
                      by_cases hc115 : y112 = 0
                      · rw [if_pos hc115] at h
                        refine ay_t_pos (pc := 114) hc115 fe_66_114 rfl ?_
                        refine ay_t_loc (pc := 119) (L' := [some (.ref 0), some (.int x1), some (.int x2), some (.int (x3 + 0)), some (.int x4), some (.int (x5 + 1)), some (.int y103), none]) fe_66_119 rfl ?_
                        refine ay_t_br (pc := 122) (pc' := 17) fe_66_122 rfl ?_
                        exact ay_t_less (ay_ls (ay_ls (ay_ls (ay_ls (ay_ls (ay_ls (ay_ln (ay_ls ay_l0)))))))) (ih _ _ _ _ _ _ _ _ h)
                      · rw [if_neg hc115] at h
                        refine ay_t_neg (pc := 114) hc115 fe_66_114 rfl ?_
                        refine ay_t_stk (pc := 117) (S' := [.int 0]) fe_66_117 rfl ?_
                        cases h
                        exact ay_t_iret fe_66_118 rfl rfl
                  · rw [if_neg hc111] at h
                    refine ay_t_neg (pc := 79) hc111 fe_66_79 rfl ?_
                    refine ay_t_loc (pc := 82) fe_66_82 rfl ?_
                    refine ay_t_loc (pc := 83) fe_66_83 rfl ?_
                    refine ay_t_loc (pc := 84) fe_66_84 rfl ?_
                    cases hk120 : fn_61 x1 x5 D108 with
                    | none => rw [hk120] at h; cases h
                    | some z =>
                      obtain ⟨y118, k133, D119⟩ := z
                      rw [hk120] at h
                      dsimp only at h
                      by_cases hz134 : k133 = 0
                      case neg => rw [if_neg hz134] at h; cases h
                      rw [if_pos hz134] at h
                      subst hz134
                      refine ay_t_call (pc := 86) (w := some (.int y118)) fe_66_86 (ay_args [.ref 0, .int x1, .int x5] [] rfl rfl (Nat.le_of_ble_eq_true rfl) (Nat.le_of_ble_eq_true rfl)) (ay_rcvV at_0 rfl) (ev_61 hk120) ?_
                      refine ay_t_loc (pc := 89) fe_66_89 rfl ?_
                      refine ay_t_loc (pc := 90) fe_66_90 rfl ?_
                      refine ay_t_stk (pc := 92) (S' := [.int 0, .int x5, .ref 0, .int y118]) fe_66_92 rfl ?_
                      cases hk123 : fn_44 x5 0 D119 with
                      | none => rw [hk123] at h; cases h
                      | some z =>
                        obtain ⟨y121, k131, D122⟩ := z
                        rw [hk123] at h
                        dsimp only at h
                        by_cases hz132 : k131 = 0
                        case neg => rw [if_neg hz132] at h; cases h
                        rw [if_pos hz132] at h
                        subst hz132
                        refine ay_t_call (pc := 93) (w := some (.int y121)) fe_66_93 (ay_args [.ref 0, .int x5, .int 0] [.int y118] rfl rfl (Nat.le_of_ble_eq_true rfl) (Nat.le_of_ble_eq_true rfl)) (ay_rcvV at_0 rfl) (ev_44 hk123) ?_
                        refine ay_t_loc (pc := 96) fe_66_96 rfl ?_
                        refine ay_t_stk (pc := 98) (S' := [.int (y121 + y103), .int y118]) fe_66_98 rfl ?_
                        refine ay_t_stk (pc := 99) (S' := [.int 2, .int (y121 + y103), .int y118]) fe_66_99 rfl ?_
                        refine ay_t_stk (pc := 100) (S' := [.int ((y121 + y103) - (y121 + y103) / 2 * 2), .int y118]) fe_66_100 (ay_irem (by decide)) ?_
                        by_cases hc124 : ¬ y118 = ((y121 + y103) - (y121 + y103) / 2 * 2)
                        · rw [if_pos hc124] at h
                          refine ay_t_pos (pc := 101) hc124 fe_66_101 rfl ?_
                          refine ay_t_stk (pc := 117) (S' := [.int 0]) fe_66_117 rfl ?_
                          cases h
                          exact ay_t_iret fe_66_118 rfl rfl
                        · rw [if_neg hc124] at h
                          refine ay_t_neg (pc := 101) hc124 fe_66_101 rfl ?_
                          refine ay_t_loc (pc := 104) fe_66_104 rfl ?_
                          refine ay_t_stk (pc := 105) (S' := [.int 0, .ref 0]) fe_66_105 rfl ?_
                          refine ay_t_loc (pc := 106) fe_66_106 rfl ?_
                          refine ay_t_loc (pc := 108) fe_66_108 rfl ?_
                          refine ay_t_stk (pc := 109) (S' := [.int 2, .int x1, .int x5, .int 0, .ref 0]) fe_66_109 rfl ?_
                          refine ay_t_stk (pc := 110) (S' := [.int (x1 - x1 / 2 * 2), .int x5, .int 0, .ref 0]) fe_66_110 (ay_irem (by decide)) ?_
                          cases hk127 : fn_59 0 x5 (x1 - x1 / 2 * 2) D122 with
                          | none => rw [hk127] at h; cases h
                          | some z =>
                            obtain ⟨y125, k129, D126⟩ := z
                            rw [hk127] at h
                            dsimp only at h
                            by_cases hz130 : k129 = 0
                            case neg => rw [if_neg hz130] at h; cases h
                            rw [if_pos hz130] at h
                            subst hz130
                            refine ay_t_call (pc := 111) (w := some (.int y125)) fe_66_111 (ay_args [.ref 0, .int 0, .int x5, .int (x1 - x1 / 2 * 2)] [] rfl rfl (Nat.le_of_ble_eq_true rfl) (Nat.le_of_ble_eq_true rfl)) (ay_rcvV at_0 rfl) (ev_59 hk127) ?_
                            by_cases hc128 : y125 = 0
                            · rw [if_pos hc128] at h
                              refine ay_t_pos (pc := 114) hc128 fe_66_114 rfl ?_
                              refine ay_t_loc (pc := 119) (L' := [some (.ref 0), some (.int x1), some (.int x2), some (.int (x3 + 0)), some (.int x4), some (.int (x5 + 1)), some (.int y103), none]) fe_66_119 rfl ?_
                              refine ay_t_br (pc := 122) (pc' := 17) fe_66_122 rfl ?_
                              exact ay_t_less (ay_ls (ay_ls (ay_ls (ay_ls (ay_ls (ay_ls (ay_ln (ay_ls ay_l0)))))))) (ih _ _ _ _ _ _ _ _ h)
                            · rw [if_neg hc128] at h
                              refine ay_t_neg (pc := 114) hc128 fe_66_114 rfl ?_
                              refine ay_t_stk (pc := 117) (S' := [.int 0]) fe_66_117 rfl ?_
                              cases h
                              exact ay_t_iret fe_66_118 rfl rfl
            · rw [if_neg hc106] at h
              refine ay_t_neg (pc := 52) hc106 fe_66_52 rfl ?_
              refine ay_t_loc (pc := 55) fe_66_55 rfl ?_
              refine ay_t_br (pc := 57) (pc' := 61) fe_66_57 rfl ?_
              refine ay_t_stk (pc := 61) (S' := [.int (x3 + y103)]) fe_66_61 rfl ?_
              refine ay_t_loc (pc := 62) (L' := [some (.ref 0), some (.int x1), some (.int x2), some (.int (x3 + y103)), some (.int x4), some (.int x5), some (.int y103), none]) fe_66_62 rfl ?_
              refine ay_t_loc (pc := 63) fe_66_63 rfl ?_
              refine ay_t_loc (pc := 65) fe_66_65 rfl ?_
              refine ay_t_loc (pc := 66) fe_66_66 rfl ?_
              refine ay_t_loc (pc := 67) fe_66_67 rfl ?_
              refine ay_t_stk (pc := 69) (S' := [.int 1, .int x5, .int x1, .ref 0, .int y103]) fe_66_69 rfl ?_
              cases hk139 : fn_59 x1 x5 1 D104 with
              | none => rw [hk139] at h; cases h
              | some z =>
                obtain ⟨y137, k165, D138⟩ := z
                rw [hk139] at h
                dsimp only at h
                by_cases hz166 : k165 = 0
                case neg => rw [if_neg hz166] at h; cases h
                rw [if_pos hz166] at h
                subst hz166
                refine ay_t_call (pc := 70) (w := some (.int y137)) fe_66_70 (ay_args [.ref 0, .int x1, .int x5, .int 1] [.int y103] rfl rfl (Nat.le_of_ble_eq_true rfl) (Nat.le_of_ble_eq_true rfl)) (ay_rcvV at_0 rfl) (ev_59 hk139) ?_
                by_cases hc140 : ¬ y103 = y137
                · rw [if_pos hc140] at h
                  refine ay_t_pos (pc := 73) hc140 fe_66_73 rfl ?_
                  refine ay_t_stk (pc := 117) (S' := [.int 0]) fe_66_117 rfl ?_
                  cases h
                  exact ay_t_iret fe_66_118 rfl rfl
                · rw [if_neg hc140] at h
                  refine ay_t_neg (pc := 73) hc140 fe_66_73 rfl ?_
                  refine ay_t_loc (pc := 76) fe_66_76 rfl ?_
                  refine ay_t_loc (pc := 78) fe_66_78 rfl ?_
                  by_cases hc141 : x2 ≤ x5
                  · rw [if_pos hc141] at h
                    refine ay_t_pos (pc := 79) hc141 fe_66_79 rfl ?_
                    refine ay_t_loc (pc := 104) fe_66_104 rfl ?_
                    refine ay_t_stk (pc := 105) (S' := [.int 0, .ref 0]) fe_66_105 rfl ?_
                    refine ay_t_loc (pc := 106) fe_66_106 rfl ?_
                    refine ay_t_loc (pc := 108) fe_66_108 rfl ?_
                    refine ay_t_stk (pc := 109) (S' := [.int 2, .int x1, .int x5, .int 0, .ref 0]) fe_66_109 rfl ?_
                    refine ay_t_stk (pc := 110) (S' := [.int (x1 - x1 / 2 * 2), .int x5, .int 0, .ref 0]) fe_66_110 (ay_irem (by decide)) ?_
                    cases hk144 : fn_59 0 x5 (x1 - x1 / 2 * 2) D138 with
                    | none => rw [hk144] at h; cases h
                    | some z =>
                      obtain ⟨y142, k146, D143⟩ := z
                      rw [hk144] at h
                      dsimp only at h
                      by_cases hz147 : k146 = 0
                      case neg => rw [if_neg hz147] at h; cases h
                      rw [if_pos hz147] at h
                      subst hz147
                      refine ay_t_call (pc := 111) (w := some (.int y142)) fe_66_111 (ay_args [.ref 0, .int 0, .int x5, .int (x1 - x1 / 2 * 2)] [] rfl rfl (Nat.le_of_ble_eq_true rfl) (Nat.le_of_ble_eq_true rfl)) (ay_rcvV at_0 rfl) (ev_59 hk144) ?_
                      by_cases hc145 : y142 = 0
                      · rw [if_pos hc145] at h
                        refine ay_t_pos (pc := 114) hc145 fe_66_114 rfl ?_
                        refine ay_t_loc (pc := 119) (L' := [some (.ref 0), some (.int x1), some (.int x2), some (.int (x3 + y103)), some (.int x4), some (.int (x5 + 1)), some (.int y103), none]) fe_66_119 rfl ?_
                        refine ay_t_br (pc := 122) (pc' := 17) fe_66_122 rfl ?_
                        exact ay_t_less (ay_ls (ay_ls (ay_ls (ay_ls (ay_ls (ay_ls (ay_ln (ay_ls ay_l0)))))))) (ih _ _ _ _ _ _ _ _ h)
                      · rw [if_neg hc145] at h
                        refine ay_t_neg (pc := 114) hc145 fe_66_114 rfl ?_
                        refine ay_t_stk (pc := 117) (S' := [.int 0]) fe_66_117 rfl ?_
                        cases h
                        exact ay_t_iret fe_66_118 rfl rfl
                  · rw [if_neg hc141] at h
                    refine ay_t_neg (pc := 79) hc141 fe_66_79 rfl ?_
                    refine ay_t_loc (pc := 82) fe_66_82 rfl ?_
                    refine ay_t_loc (pc := 83) fe_66_83 rfl ?_
                    refine ay_t_loc (pc := 84) fe_66_84 rfl ?_
                    cases hk150 : fn_61 x1 x5 D138 with
                    | none => rw [hk150] at h; cases h
                    | some z =>
                      obtain ⟨y148, k163, D149⟩ := z
                      rw [hk150] at h
                      dsimp only at h
                      by_cases hz164 : k163 = 0
                      case neg => rw [if_neg hz164] at h; cases h
                      rw [if_pos hz164] at h
                      subst hz164
                      refine ay_t_call (pc := 86) (w := some (.int y148)) fe_66_86 (ay_args [.ref 0, .int x1, .int x5] [] rfl rfl (Nat.le_of_ble_eq_true rfl) (Nat.le_of_ble_eq_true rfl)) (ay_rcvV at_0 rfl) (ev_61 hk150) ?_
                      refine ay_t_loc (pc := 89) fe_66_89 rfl ?_
                      refine ay_t_loc (pc := 90) fe_66_90 rfl ?_
                      refine ay_t_stk (pc := 92) (S' := [.int 0, .int x5, .ref 0, .int y148]) fe_66_92 rfl ?_
                      cases hk153 : fn_44 x5 0 D149 with
                      | none => rw [hk153] at h; cases h
                      | some z =>
                        obtain ⟨y151, k161, D152⟩ := z
                        rw [hk153] at h
                        dsimp only at h
                        by_cases hz162 : k161 = 0
                        case neg => rw [if_neg hz162] at h; cases h
                        rw [if_pos hz162] at h
                        subst hz162
                        refine ay_t_call (pc := 93) (w := some (.int y151)) fe_66_93 (ay_args [.ref 0, .int x5, .int 0] [.int y148] rfl rfl (Nat.le_of_ble_eq_true rfl) (Nat.le_of_ble_eq_true rfl)) (ay_rcvV at_0 rfl) (ev_44 hk153) ?_
                        refine ay_t_loc (pc := 96) fe_66_96 rfl ?_
                        refine ay_t_stk (pc := 98) (S' := [.int (y151 + y103), .int y148]) fe_66_98 rfl ?_
                        refine ay_t_stk (pc := 99) (S' := [.int 2, .int (y151 + y103), .int y148]) fe_66_99 rfl ?_
                        refine ay_t_stk (pc := 100) (S' := [.int ((y151 + y103) - (y151 + y103) / 2 * 2), .int y148]) fe_66_100 (ay_irem (by decide)) ?_
                        by_cases hc154 : ¬ y148 = ((y151 + y103) - (y151 + y103) / 2 * 2)
                        · rw [if_pos hc154] at h
                          refine ay_t_pos (pc := 101) hc154 fe_66_101 rfl ?_
                          refine ay_t_stk (pc := 117) (S' := [.int 0]) fe_66_117 rfl ?_
                          cases h
                          exact ay_t_iret fe_66_118 rfl rfl
                        · rw [if_neg hc154] at h
                          refine ay_t_neg (pc := 101) hc154 fe_66_101 rfl ?_
                          refine ay_t_loc (pc := 104) fe_66_104 rfl ?_
                          refine ay_t_stk (pc := 105) (S' := [.int 0, .ref 0]) fe_66_105 rfl ?_
                          refine ay_t_loc (pc := 106) fe_66_106 rfl ?_
                          refine ay_t_loc (pc := 108) fe_66_108 rfl ?_
                          refine ay_t_stk (pc := 109) (S' := [.int 2, .int x1, .int x5, .int 0, .ref 0]) fe_66_109 rfl ?_
                          refine ay_t_stk (pc := 110) (S' := [.int (x1 - x1 / 2 * 2), .int x5, .int 0, .ref 0]) fe_66_110 (ay_irem (by decide)) ?_
                          cases hk157 : fn_59 0 x5 (x1 - x1 / 2 * 2) D152 with
                          | none => rw [hk157] at h; cases h
                          | some z =>
                            obtain ⟨y155, k159, D156⟩ := z
                            rw [hk157] at h
                            dsimp only at h
                            by_cases hz160 : k159 = 0
                            case neg => rw [if_neg hz160] at h; cases h
                            rw [if_pos hz160] at h
                            subst hz160
                            refine ay_t_call (pc := 111) (w := some (.int y155)) fe_66_111 (ay_args [.ref 0, .int 0, .int x5, .int (x1 - x1 / 2 * 2)] [] rfl rfl (Nat.le_of_ble_eq_true rfl) (Nat.le_of_ble_eq_true rfl)) (ay_rcvV at_0 rfl) (ev_59 hk157) ?_
                            by_cases hc158 : y155 = 0
                            · rw [if_pos hc158] at h
                              refine ay_t_pos (pc := 114) hc158 fe_66_114 rfl ?_
                              refine ay_t_loc (pc := 119) (L' := [some (.ref 0), some (.int x1), some (.int x2), some (.int (x3 + y103)), some (.int x4), some (.int (x5 + 1)), some (.int y103), none]) fe_66_119 rfl ?_
                              refine ay_t_br (pc := 122) (pc' := 17) fe_66_122 rfl ?_
                              exact ay_t_less (ay_ls (ay_ls (ay_ls (ay_ls (ay_ls (ay_ls (ay_ln (ay_ls ay_l0)))))))) (ih _ _ _ _ _ _ _ _ h)
                            · rw [if_neg hc158] at h
                              refine ay_t_neg (pc := 114) hc158 fe_66_114 rfl ?_
                              refine ay_t_stk (pc := 117) (S' := [.int 0]) fe_66_117 rfl ?_
                              cases h
                              exact ay_t_iret fe_66_118 rfl rfl
def fn_66 (a2 : Int32) (D : am_DD) : Option (Int32 × am_DD) := (match fn_14 1 D with | none => none | some (y1, k7, D2) => (if k7 = 0 then (match fn_54 D2 with | none => none | some (y4, D5) => fn_66_17 am_F a2 y1 0 y4 0 D5) else none))
set_option maxHeartbeats 2000000 in
theorem ev_66 {a2 : Int32} {D : am_DD} {y : Int32} {Z : am_DD} (h : fn_66 a2 D = some (y, Z)) : ay_mo 66 [.ref 0, .int a2] D (.inl (some (.int y))) Z := by
  unfold fn_66 at h
  refine ay_m_of (L := [some (.ref 0), some (.int a2), none, none, none, none, none, none]) rfl ?_
  refine ay_t_loc (pc := 0) fe_66_0 rfl ?_
  refine ay_t_stk (pc := 1) (S' := [.int 1, .ref 0]) fe_66_1 rfl ?_
  cases hk3 : fn_14 1 D with
  | none => rw [hk3] at h; cases h
  | some z =>
    obtain ⟨y1, k7, D2⟩ := z
    rw [hk3] at h
    dsimp only at h
    by_cases hz8 : k7 = 0
    case neg => rw [if_neg hz8] at h; cases h
    rw [if_pos hz8] at h
    subst hz8
    refine ay_t_call (pc := 2) (w := some (.int y1)) fe_66_2 (ay_args [.ref 0, .int 1] [] rfl rfl (Nat.le_of_ble_eq_true rfl) (Nat.le_of_ble_eq_true rfl)) (ay_rcvV at_0 rfl) (ev_14 hk3) ?_
    refine ay_t_loc (pc := 5) (L' := [some (.ref 0), some (.int a2), some (.int y1), none, none, none, none, none]) fe_66_5 rfl ?_
    refine ay_t_stk (pc := 6) (S' := [.int 0]) fe_66_6 rfl ?_
    refine ay_t_loc (pc := 7) (L' := [some (.ref 0), some (.int a2), some (.int y1), some (.int 0), none, none, none, none]) fe_66_7 rfl ?_
    refine ay_t_loc (pc := 8) fe_66_8 rfl ?_
    cases hk6 : fn_54 D2 with
    | none => rw [hk6] at h; cases h
    | some z =>
      obtain ⟨y4, D5⟩ := z
      rw [hk6] at h
      dsimp only at h
      refine ay_t_call (pc := 9) (w := some (.int y4)) fe_66_9 (ay_args [.ref 0] [] rfl rfl (Nat.le_of_ble_eq_true rfl) (Nat.le_of_ble_eq_true rfl)) (ay_rcvV at_0 rfl) (ev_54 hk6) ?_
      refine ay_t_loc (pc := 12) (L' := [some (.ref 0), some (.int a2), some (.int y1), some (.int 0), some (.int y4), none, none, none]) fe_66_12 rfl ?_
      refine ay_t_stk (pc := 14) (S' := [.int 0]) fe_66_14 rfl ?_
      refine ay_t_loc (pc := 15) (L' := [some (.ref 0), some (.int a2), some (.int y1), some (.int 0), some (.int y4), some (.int 0), none, none]) fe_66_15 rfl ?_
      exact ay_t_less (ay_ls (ay_ls (ay_ls (ay_ls (ay_ls (ay_ls (ay_ls (ay_ls ay_l0)))))))) (ev_66_17 _ _ _ _ _ _ _ _ _ h)
