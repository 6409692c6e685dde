/-! methods as functions, with what am_run does (written by wip/whole/gen6.py) -/
def fn_160 (a1 a2 : Int32) (D : am_DD) : Option (Int32 × am_DD) := (match fn_44 a1 D with | none => none | some (y1, D2) => (if ¬ y1 = 0 then (match fn_26 a2 0 7 D2 with | none => none | some (y5, D6) => (if ¬ y5 = 0 then (match fn_29 0 D6 with | none => none | some (y9, D10) => (if ¬ y9 = 0 then (if ¬ a2 = 6 then (if ¬ a2 = 7 then (match fn_48 a1 a2 D10 with | none => none | some (y15, D16) => some (y15, D16)) else (match fn_48 a1 6 D10 with | none => none | some (y18, D19) => some (y18, D19))) else (match fn_159 a1 D10 with | none => none | some (y21, D22) => some (y21, D22))) else some (0, D10))) else (match fn_29 2 D6 with | none => none | some (y24, D25) => (if ¬ y24 = 0 then (if ¬ a2 = 6 then (if ¬ a2 = 7 then (match fn_48 a1 a2 D25 with | none => none | some (y30, D31) => some (y30, D31)) else (match fn_48 a1 6 D25 with | none => none | some (y33, D34) => some (y33, D34))) else (match fn_159 a1 D25 with | none => none | some (y36, D37) => some (y36, D37))) else some (0, D25))))) else (match fn_29 1 D2 with | none => none | some (y39, D40) => (if ¬ y39 = 0 then (if ¬ a2 = 6 then (if ¬ a2 = 7 then (match fn_48 a1 a2 D40 with | none => none | some (y45, D46) => some (y45, D46)) else (match fn_48 a1 6 D40 with | none => none | some (y48, D49) => some (y48, D49))) else (match fn_159 a1 D40 with | none => none | some (y51, D52) => some (y51, D52))) else some (0, D40)))))
set_option maxHeartbeats 2000000 in
theorem ev_160 {a1 a2 : Int32} {D : am_DD} {y : Int32} {Z : am_DD} (h : fn_160 a1 a2 D = some (y, Z)) : ay_mo 160 [.ref 321, .int a1, .int a2] D (.inl (some (.int y))) Z := by
  unfold fn_160 at h
  refine ay_m_of (L := [some (.ref 321), some (.int a1), some (.int a2)]) rfl ?_
  refine ay_t_loc (pc := 0) fe_160_0 rfl ?_
  refine ay_t_loc (pc := 1) fe_160_1 rfl ?_
  refine ay_t_loc (pc := 2) fe_160_2 rfl ?_
  cases hk3 : fn_44 a1 D with
  | none => rw [hk3] at h; cases h
  | some z =>
    obtain ⟨y1, D2⟩ := z
    rw [hk3] at h
    dsimp only at h
    refine ay_t_call (pc := 3) (w := some (.int y1)) fe_160_3 (ay_args [.ref 321, .int a1] [.ref 321] rfl rfl (Nat.le_of_ble_eq_true rfl) (Nat.le_of_ble_eq_true rfl)) (ay_rcvV at_321 rfl) (ev_44 hk3) ?_
    by_cases hc4 : ¬ y1 = 0
    · rw [if_pos hc4] at h
      refine ay_t_pos (pc := 6) hc4 fe_160_6 rfl ?_
      refine ay_t_loc (pc := 13) fe_160_13 rfl ?_
      refine ay_t_stk (pc := 14) (S' := [.int 0, .int a2, .ref 321]) fe_160_14 rfl ?_
      refine ay_t_stk (pc := 15) (S' := [.int 7, .int 0, .int a2, .ref 321]) fe_160_15 rfl ?_
      cases hk7 : fn_26 a2 0 7 D2 with
      | none => rw [hk7] at h; cases h
      | some z =>
        obtain ⟨y5, D6⟩ := z
        rw [hk7] at h
        dsimp only at h
        refine ay_t_call (pc := 17) (w := some (.int y5)) fe_160_17 (ay_args [.int a2, .int 0, .int 7] [.ref 321] rfl rfl (Nat.le_of_ble_eq_true rfl) (Nat.le_of_ble_eq_true rfl)) rfl (ev_26 hk7) ?_
        by_cases hc8 : ¬ y5 = 0
        · rw [if_pos hc8] at h
          refine ay_t_pos (pc := 20) hc8 fe_160_20 rfl ?_
          refine ay_t_stk (pc := 27) (S' := [.int 0, .ref 321]) fe_160_27 rfl ?_
          cases hk11 : fn_29 0 D6 with
          | none => rw [hk11] at h; cases h
          | some z =>
            obtain ⟨y9, D10⟩ := z
            rw [hk11] at h
            dsimp only at h
            refine ay_t_call (pc := 28) (w := some (.int y9)) fe_160_28 (ay_args [.ref 321, .int 0] [] rfl rfl (Nat.le_of_ble_eq_true rfl) (Nat.le_of_ble_eq_true rfl)) (ay_rcvV at_321 rfl) (ev_29 hk11) ?_
            by_cases hc12 : ¬ y9 = 0
            · rw [if_pos hc12] at h
              refine ay_t_pos (pc := 31) hc12 fe_160_31 rfl ?_
              refine ay_t_loc (pc := 36) fe_160_36 rfl ?_
              refine ay_t_stk (pc := 37) (S' := [.int 6, .int a2]) fe_160_37 rfl ?_
              by_cases hc13 : ¬ a2 = 6
              · rw [if_pos hc13] at h
                refine ay_t_pos (pc := 39) hc13 fe_160_39 rfl ?_
                refine ay_t_loc (pc := 50) fe_160_50 rfl ?_
                refine ay_t_loc (pc := 51) fe_160_51 rfl ?_
                refine ay_t_loc (pc := 52) fe_160_52 rfl ?_
                refine ay_t_stk (pc := 53) (S' := [.int 7, .int a2, .int a1, .ref 321]) fe_160_53 rfl ?_
                by_cases hc14 : ¬ a2 = 7
                · rw [if_pos hc14] at h
                  refine ay_t_pos (pc := 55) hc14 fe_160_55 rfl ?_
                  refine ay_t_loc (pc := 63) fe_160_63 rfl ?_
                  cases hk17 : fn_48 a1 a2 D10 with
                  | none => rw [hk17] at h; cases h
                  | some z =>
                    obtain ⟨y15, D16⟩ := z
                    rw [hk17] at h
                    dsimp only at h
                    refine ay_t_call (pc := 64) (w := some (.int y15)) fe_160_64 (ay_args [.ref 321, .int a1, .int a2] [] rfl rfl (Nat.le_of_ble_eq_true rfl) (Nat.le_of_ble_eq_true rfl)) (ay_rcvV at_321 rfl) (ev_48 hk17) ?_
                    cases h
                    exact ay_t_iret fe_160_67 rfl rfl
                · rw [if_neg hc14] at h
                  refine ay_t_neg (pc := 55) hc14 fe_160_55 rfl ?_
                  refine ay_t_stk (pc := 58) (S' := [.int 6, .int a1, .ref 321]) fe_160_58 rfl ?_
                  refine ay_t_br (pc := 60) (pc' := 64) fe_160_60 rfl ?_
                  cases hk20 : fn_48 a1 6 D10 with
                  | none => rw [hk20] at h; cases h
                  | some z =>
                    obtain ⟨y18, D19⟩ := z
                    rw [hk20] at h
                    dsimp only at h
                    refine ay_t_call (pc := 64) (w := some (.int y18)) fe_160_64 (ay_args [.ref 321, .int a1, .int 6] [] rfl rfl (Nat.le_of_ble_eq_true rfl) (Nat.le_of_ble_eq_true rfl)) (ay_rcvV at_321 rfl) (ev_48 hk20) ?_
                    cases h
                    exact ay_t_iret fe_160_67 rfl rfl
              · rw [if_neg hc13] at h
                refine ay_t_neg (pc := 39) hc13 fe_160_39 rfl ?_
                refine ay_t_loc (pc := 42) fe_160_42 rfl ?_
                refine ay_t_loc (pc := 43) fe_160_43 rfl ?_
                cases hk23 : fn_159 a1 D10 with
                | none => rw [hk23] at h; cases h
                | some z =>
                  obtain ⟨y21, D22⟩ := z
                  rw [hk23] at h
                  dsimp only at h
                  refine ay_t_call (pc := 44) (w := some (.int y21)) fe_160_44 (ay_args [.ref 321, .int a1] [] rfl rfl (Nat.le_of_ble_eq_true rfl) (Nat.le_of_ble_eq_true rfl)) (ay_rcvV at_321 rfl) (ev_159 hk23) ?_
                  refine ay_t_br (pc := 47) (pc' := 67) fe_160_47 rfl ?_
                  cases h
                  exact ay_t_iret fe_160_67 rfl rfl
            · rw [if_neg hc12] at h
              refine ay_t_neg (pc := 31) hc12 fe_160_31 rfl ?_
              refine ay_t_stk (pc := 34) (S' := [.int 0]) fe_160_34 rfl ?_
              cases h
              exact ay_t_iret fe_160_35 rfl rfl
        · rw [if_neg hc8] at h
          refine ay_t_neg (pc := 20) hc8 fe_160_20 rfl ?_
          refine ay_t_stk (pc := 23) (S' := [.int 2, .ref 321]) fe_160_23 rfl ?_
          refine ay_t_br (pc := 24) (pc' := 28) fe_160_24 rfl ?_
          cases hk26 : fn_29 2 D6 with
          | none => rw [hk26] at h; cases h
          | some z =>
            obtain ⟨y24, D25⟩ := z
            rw [hk26] at h
            dsimp only at h
            refine ay_t_call (pc := 28) (w := some (.int y24)) fe_160_28 (ay_args [.ref 321, .int 2] [] rfl rfl (Nat.le_of_ble_eq_true rfl) (Nat.le_of_ble_eq_true rfl)) (ay_rcvV at_321 rfl) (ev_29 hk26) ?_
            by_cases hc27 : ¬ y24 = 0
            · rw [if_pos hc27] at h
              refine ay_t_pos (pc := 31) hc27 fe_160_31 rfl ?_
              refine ay_t_loc (pc := 36) fe_160_36 rfl ?_
              refine ay_t_stk (pc := 37) (S' := [.int 6, .int a2]) fe_160_37 rfl ?_
              by_cases hc28 : ¬ a2 = 6
              · rw [if_pos hc28] at h
                refine ay_t_pos (pc := 39) hc28 fe_160_39 rfl ?_
                refine ay_t_loc (pc := 50) fe_160_50 rfl ?_
                refine ay_t_loc (pc := 51) fe_160_51 rfl ?_
                refine ay_t_loc (pc := 52) fe_160_52 rfl ?_
                refine ay_t_stk (pc := 53) (S' := [.int 7, .int a2, .int a1, .ref 321]) fe_160_53 rfl ?_
                by_cases hc29 : ¬ a2 = 7
                · rw [if_pos hc29] at h
                  refine ay_t_pos (pc := 55) hc29 fe_160_55 rfl ?_
                  refine ay_t_loc (pc := 63) fe_160_63 rfl ?_
                  cases hk32 : fn_48 a1 a2 D25 with
                  | none => rw [hk32] at h; cases h
                  | some z =>
                    obtain ⟨y30, D31⟩ := z
                    rw [hk32] at h
                    dsimp only at h
                    refine ay_t_call (pc := 64) (w := some (.int y30)) fe_160_64 (ay_args [.ref 321, .int a1, .int a2] [] rfl rfl (Nat.le_of_ble_eq_true rfl) (Nat.le_of_ble_eq_true rfl)) (ay_rcvV at_321 rfl) (ev_48 hk32) ?_
                    cases h
                    exact ay_t_iret fe_160_67 rfl rfl
                · rw [if_neg hc29] at h
                  refine ay_t_neg (pc := 55) hc29 fe_160_55 rfl ?_
                  refine ay_t_stk (pc := 58) (S' := [.int 6, .int a1, .ref 321]) fe_160_58 rfl ?_
                  refine ay_t_br (pc := 60) (pc' := 64) fe_160_60 rfl ?_
                  cases hk35 : fn_48 a1 6 D25 with
                  | none => rw [hk35] at h; cases h
                  | some z =>
                    obtain ⟨y33, D34⟩ := z
                    rw [hk35] at h
                    dsimp only at h
                    refine ay_t_call (pc := 64) (w := some (.int y33)) fe_160_64 (ay_args [.ref 321, .int a1, .int 6] [] rfl rfl (Nat.le_of_ble_eq_true rfl) (Nat.le_of_ble_eq_true rfl)) (ay_rcvV at_321 rfl) (ev_48 hk35) ?_
                    cases h
                    exact ay_t_iret fe_160_67 rfl rfl
              · rw [if_neg hc28] at h
                refine ay_t_neg (pc := 39) hc28 fe_160_39 rfl ?_
                refine ay_t_loc (pc := 42) fe_160_42 rfl ?_
                refine ay_t_loc (pc := 43) fe_160_43 rfl ?_
                cases hk38 : fn_159 a1 D25 with
                | none => rw [hk38] at h; cases h
                | some z =>
                  obtain ⟨y36, D37⟩ := z
                  rw [hk38] at h
                  dsimp only at h
                  refine ay_t_call (pc := 44) (w := some (.int y36)) fe_160_44 (ay_args [.ref 321, .int a1] [] rfl rfl (Nat.le_of_ble_eq_true rfl) (Nat.le_of_ble_eq_true rfl)) (ay_rcvV at_321 rfl) (ev_159 hk38) ?_
                  refine ay_t_br (pc := 47) (pc' := 67) fe_160_47 rfl ?_
                  cases h
                  exact ay_t_iret fe_160_67 rfl rfl
            · rw [if_neg hc27] at h
              refine ay_t_neg (pc := 31) hc27 fe_160_31 rfl ?_
              refine ay_t_stk (pc := 34) (S' := [.int 0]) fe_160_34 rfl ?_
              cases h
              exact ay_t_iret fe_160_35 rfl rfl
    · rw [if_neg hc4] at h
      refine ay_t_neg (pc := 6) hc4 fe_160_6 rfl ?_
      refine ay_t_stk (pc := 9) (S' := [.int 1, .ref 321]) fe_160_9 rfl ?_
      refine ay_t_br (pc := 10) (pc' := 28) fe_160_10 rfl ?_
      cases hk41 : fn_29 1 D2 with
      | none => rw [hk41] at h; cases h
      | some z =>
        obtain ⟨y39, D40⟩ := z
        rw [hk41] at h
        dsimp only at h
        refine ay_t_call (pc := 28) (w := some (.int y39)) fe_160_28 (ay_args [.ref 321, .int 1] [] rfl rfl (Nat.le_of_ble_eq_true rfl) (Nat.le_of_ble_eq_true rfl)) (ay_rcvV at_321 rfl) (ev_29 hk41) ?_
        by_cases hc42 : ¬ y39 = 0
        · rw [if_pos hc42] at h
          refine ay_t_pos (pc := 31) hc42 fe_160_31 rfl ?_
          refine ay_t_loc (pc := 36) fe_160_36 rfl ?_
          refine ay_t_stk (pc := 37) (S' := [.int 6, .int a2]) fe_160_37 rfl ?_
          by_cases hc43 : ¬ a2 = 6
          · rw [if_pos hc43] at h
            refine ay_t_pos (pc := 39) hc43 fe_160_39 rfl ?_
            refine ay_t_loc (pc := 50) fe_160_50 rfl ?_
            refine ay_t_loc (pc := 51) fe_160_51 rfl ?_
            refine ay_t_loc (pc := 52) fe_160_52 rfl ?_
            refine ay_t_stk (pc := 53) (S' := [.int 7, .int a2, .int a1, .ref 321]) fe_160_53 rfl ?_
            by_cases hc44 : ¬ a2 = 7
            · rw [if_pos hc44] at h
              refine ay_t_pos (pc := 55) hc44 fe_160_55 rfl ?_
              refine ay_t_loc (pc := 63) fe_160_63 rfl ?_
              cases hk47 : fn_48 a1 a2 D40 with
              | none => rw [hk47] at h; cases h
              | some z =>
                obtain ⟨y45, D46⟩ := z
                rw [hk47] at h
                dsimp only at h
                refine ay_t_call (pc := 64) (w := some (.int y45)) fe_160_64 (ay_args [.ref 321, .int a1, .int a2] [] rfl rfl (Nat.le_of_ble_eq_true rfl) (Nat.le_of_ble_eq_true rfl)) (ay_rcvV at_321 rfl) (ev_48 hk47) ?_
                cases h
                exact ay_t_iret fe_160_67 rfl rfl
            · rw [if_neg hc44] at h
              refine ay_t_neg (pc := 55) hc44 fe_160_55 rfl ?_
              refine ay_t_stk (pc := 58) (S' := [.int 6, .int a1, .ref 321]) fe_160_58 rfl ?_
              refine ay_t_br (pc := 60) (pc' := 64) fe_160_60 rfl ?_
              cases hk50 : fn_48 a1 6 D40 with
              | none => rw [hk50] at h; cases h
              | some z =>
                obtain ⟨y48, D49⟩ := z
                rw [hk50] at h
                dsimp only at h
                refine ay_t_call (pc := 64) (w := some (.int y48)) fe_160_64 (ay_args [.ref 321, .int a1, .int 6] [] rfl rfl (Nat.le_of_ble_eq_true rfl) (Nat.le_of_ble_eq_true rfl)) (ay_rcvV at_321 rfl) (ev_48 hk50) ?_
                cases h
                exact ay_t_iret fe_160_67 rfl rfl
          · rw [if_neg hc43] at h
            refine ay_t_neg (pc := 39) hc43 fe_160_39 rfl ?_
            refine ay_t_loc (pc := 42) fe_160_42 rfl ?_
            refine ay_t_loc (pc := 43) fe_160_43 rfl ?_
            cases hk53 : fn_159 a1 D40 with
            | none => rw [hk53] at h; cases h
            | some z =>
              obtain ⟨y51, D52⟩ := z
              rw [hk53] at h
              dsimp only at h
              refine ay_t_call (pc := 44) (w := some (.int y51)) fe_160_44 (ay_args [.ref 321, .int a1] [] rfl rfl (Nat.le_of_ble_eq_true rfl) (Nat.le_of_ble_eq_true rfl)) (ay_rcvV at_321 rfl) (ev_159 hk53) ?_
              refine ay_t_br (pc := 47) (pc' := 67) fe_160_47 rfl ?_
              cases h
              exact ay_t_iret fe_160_67 rfl rfl
        · rw [if_neg hc42] at h
          refine ay_t_neg (pc := 31) hc42 fe_160_31 rfl ?_
          refine ay_t_stk (pc := 34) (S' := [.int 0]) fe_160_34 rfl ?_
          cases h
          exact ay_t_iret fe_160_35 rfl rfl
def fn_161_4 : Nat → Int32 → Int32 → am_DD → Option (Int32 × am_DD)
  | 0, _, _, _ => none
  | n + 1, x2, x3, D => (if 12 ≤ x3 then some (x3, D) else (match fn_36 x2 D with | none => none | some (y2, D3) => (if y2 = 0 then some (x3, D3) else (match fn_73 x2 (rw_at (D3 10) 12 x2) D3 with | none => none | some (y6, D7) => fn_161_4 n y6 (x3 + 1) D7))))
set_option maxHeartbeats 2000000 in
theorem ev_161_4 : ∀ (n : Nat) (x2 x3 : Int32) (D : am_DD) (y : Int32) (Z : am_DD), fn_161_4 n x2 x3 D = some (y, Z) → ay_to 161 4 [some (.ref 8), none, some (.int x2), some (.int x3)] [] D (.inl (some (.int y))) Z := by
  intro n
  induction n with
  | zero => intro x2 x3 D y Z h; cases h
  | succ n ih =>
    intro x2 x3 D y Z h
    rw [fn_161_4] at h
    refine ay_t_loc (pc := 4) fe_161_4 rfl ?_
    refine ay_t_stk (pc := 5) (S' := [.int 12, .int x3]) fe_161_5 rfl ?_
    by_cases hc1 : 12 ≤ x3
    · rw [if_pos hc1] at h
      refine ay_t_pos (pc := 7) hc1 fe_161_7 rfl ?_
      refine ay_t_loc (pc := 38) fe_161_38 rfl ?_
      cases h
      exact ay_t_iret fe_161_39 rfl rfl
    · rw [if_neg hc1] at h
      refine ay_t_neg (pc := 7) hc1 fe_161_7 rfl ?_
      refine ay_t_loc (pc := 10) fe_161_10 rfl ?_
      refine ay_t_loc (pc := 11) fe_161_11 rfl ?_
      cases hk4 : fn_36 x2 D with
      | none => rw [hk4] at h; cases h
      | some z =>
        obtain ⟨y2, D3⟩ := z
        rw [hk4] at h
        dsimp only at h
        refine ay_t_call (pc := 12) (w := some (.int y2)) fe_161_12 (ay_args [.ref 8, .int x2] [] rfl rfl (Nat.le_of_ble_eq_true rfl) (Nat.le_of_ble_eq_true rfl)) (ay_rcvV at_8 rfl) (ev_36 hk4) ?_
        by_cases hc5 : y2 = 0
        · rw [if_pos hc5] at h
          refine ay_t_pos (pc := 15) hc5 fe_161_15 rfl ?_
          refine ay_t_loc (pc := 38) fe_161_38 rfl ?_
          cases h
          exact ay_t_iret fe_161_39 rfl rfl
        · rw [if_neg hc5] at h
          refine ay_t_neg (pc := 15) hc5 fe_161_15 rfl ?_
          refine ay_t_loc (pc := 18) fe_161_18 rfl ?_
          refine ay_t_loc (pc := 19) fe_161_19 rfl ?_
          refine ay_t_loc (pc := 20) fe_161_20 rfl ?_
          refine ay_t_getR (pc := 21) (w := .ref 9) fe_161_21 at_8 (by decide +kernel) rfl ?_
          refine ay_t_loc (pc := 24) fe_161_24 rfl ?_
          refine ay_t_call (pc := 25) (w := some (.int (rw_at (D3 10) 12 x2))) fe_161_25 (ay_args [.ref 9, .int x2] [.int x2, .ref 8] rfl rfl (Nat.le_of_ble_eq_true rfl) (Nat.le_of_ble_eq_true rfl)) (ay_rcvV at_9 rfl) (mt_at at_9 at_10 (by decide)) ?_
          cases hk8 : fn_73 x2 (rw_at (D3 10) 12 x2) D3 with
          | none => rw [hk8] at h; cases h
          | some z =>
            obtain ⟨y6, D7⟩ := z
            rw [hk8] at h
            dsimp only at h
            refine ay_t_call (pc := 28) (w := some (.int y6)) fe_161_28 (ay_args [.ref 8, .int x2, .int (rw_at (D3 10) 12 x2)] [] rfl rfl (Nat.le_of_ble_eq_true rfl) (Nat.le_of_ble_eq_true rfl)) (ay_rcvV at_8 rfl) (ev_73 hk8) ?_
            refine ay_t_loc (pc := 31) (L' := [some (.ref 8), none, some (.int y6), some (.int x3)]) fe_161_31 rfl ?_
            refine ay_t_loc (pc := 32) (L' := [some (.ref 8), none, some (.int y6), some (.int (x3 + 1))]) fe_161_32 rfl ?_
            refine ay_t_br (pc := 35) (pc' := 4) fe_161_35 rfl ?_
            exact ay_t_less (ay_ls (ay_ls (ay_ls (ay_ls ay_l0)))) (ih _ _ _ _ _ h)
def fn_161 (a1 : Int32) (D : am_DD) : Option (Int32 × am_DD) := fn_161_4 am_F a1 0 D
set_option maxHeartbeats 2000000 in
theorem ev_161 {a1 : Int32} {D : am_DD} {y : Int32} {Z : am_DD} (h : fn_161 a1 D = some (y, Z)) : ay_mo 161 [.ref 8, .int a1] D (.inl (some (.int y))) Z := by
  unfold fn_161 at h
  refine ay_m_of (L := [some (.ref 8), some (.int a1), none, none]) rfl ?_
  refine ay_t_loc (pc := 0) fe_161_0 rfl ?_
  refine ay_t_loc (pc := 1) (L' := [some (.ref 8), some (.int a1), some (.int a1), none]) fe_161_1 rfl ?_
  refine ay_t_stk (pc := 2) (S' := [.int 0]) fe_161_2 rfl ?_
  refine ay_t_loc (pc := 3) (L' := [some (.ref 8), some (.int a1), some (.int a1), some (.int 0)]) fe_161_3 rfl ?_
  exact ay_t_less (ay_ls (ay_ln (ay_ls (ay_ls ay_l0)))) (ev_161_4 _ _ _ _ _ _ h)
def fn_162_4 : Nat → Int32 → Int32 → am_DD → Option (Int32 × am_DD)
  | 0, _, _, _ => none
  | n + 1, x2, x3, D => (if 12 ≤ x3 then some ((x2 - 20), D) else (match fn_36 x2 D with | none => none | some (y2, D3) => (if y2 = 0 then some ((x2 - 20), D3) else (match fn_73 x2 (rw_at (D3 10) 12 x2) D3 with | none => none | some (y6, D7) => fn_162_4 n y6 (x3 + 1) D7))))
set_option maxHeartbeats 2000000 in
theorem ev_162_4 : ∀ (n : Nat) (x2 x3 : Int32) (D : am_DD) (y : Int32) (Z : am_DD), fn_162_4 n x2 x3 D = some (y, Z) → ay_to 162 4 [some (.ref 8), none, some (.int x2), some (.int x3)] [] D (.inl (some (.int y))) Z := by
  intro n
  induction n with
  | zero => intro x2 x3 D y Z h; cases h
  | succ n ih =>
    intro x2 x3 D y Z h
    rw [fn_162_4] at h
    refine ay_t_loc (pc := 4) fe_162_4 rfl ?_
    refine ay_t_stk (pc := 5) (S' := [.int 12, .int x3]) fe_162_5 rfl ?_
    by_cases hc1 : 12 ≤ x3
    · rw [if_pos hc1] at h
      refine ay_t_pos (pc := 7) hc1 fe_162_7 rfl ?_
      refine ay_t_loc (pc := 38) fe_162_38 rfl ?_
      refine ay_t_stk (pc := 39) (S' := [.int 20, .int x2]) fe_162_39 rfl ?_
      refine ay_t_stk (pc := 41) (S' := [.int (x2 - 20)]) fe_162_41 rfl ?_
      cases h
      exact ay_t_iret fe_162_42 rfl rfl
    · rw [if_neg hc1] at h
      refine ay_t_neg (pc := 7) hc1 fe_162_7 rfl ?_
      refine ay_t_loc (pc := 10) fe_162_10 rfl ?_
      refine ay_t_loc (pc := 11) fe_162_11 rfl ?_
      cases hk4 : fn_36 x2 D with
      | none => rw [hk4] at h; cases h
      | some z =>
        obtain ⟨y2, D3⟩ := z
        rw [hk4] at h
        dsimp only at h
        refine ay_t_call (pc := 12) (w := some (.int y2)) fe_162_12 (ay_args [.ref 8, .int x2] [] rfl rfl (Nat.le_of_ble_eq_true rfl) (Nat.le_of_ble_eq_true rfl)) (ay_rcvV at_8 rfl) (ev_36 hk4) ?_
        by_cases hc5 : y2 = 0
        · rw [if_pos hc5] at h
          refine ay_t_pos (pc := 15) hc5 fe_162_15 rfl ?_
          refine ay_t_loc (pc := 38) fe_162_38 rfl ?_
          refine ay_t_stk (pc := 39) (S' := [.int 20, .int x2]) fe_162_39 rfl ?_
          refine ay_t_stk (pc := 41) (S' := [.int (x2 - 20)]) fe_162_41 rfl ?_
          cases h
          exact ay_t_iret fe_162_42 rfl rfl
        · rw [if_neg hc5] at h
          refine ay_t_neg (pc := 15) hc5 fe_162_15 rfl ?_
          refine ay_t_loc (pc := 18) fe_162_18 rfl ?_
          refine ay_t_loc (pc := 19) fe_162_19 rfl ?_
          refine ay_t_loc (pc := 20) fe_162_20 rfl ?_
          refine ay_t_getR (pc := 21) (w := .ref 9) fe_162_21 at_8 (by decide +kernel) rfl ?_
          refine ay_t_loc (pc := 24) fe_162_24 rfl ?_
          refine ay_t_call (pc := 25) (w := some (.int (rw_at (D3 10) 12 x2))) fe_162_25 (ay_args [.ref 9, .int x2] [.int x2, .ref 8] rfl rfl (Nat.le_of_ble_eq_true rfl) (Nat.le_of_ble_eq_true rfl)) (ay_rcvV at_9 rfl) (mt_at at_9 at_10 (by decide)) ?_
          cases hk8 : fn_73 x2 (rw_at (D3 10) 12 x2) D3 with
          | none => rw [hk8] at h; cases h
          | some z =>
            obtain ⟨y6, D7⟩ := z
            rw [hk8] at h
            dsimp only at h
            refine ay_t_call (pc := 28) (w := some (.int y6)) fe_162_28 (ay_args [.ref 8, .int x2, .int (rw_at (D3 10) 12 x2)] [] rfl rfl (Nat.le_of_ble_eq_true rfl) (Nat.le_of_ble_eq_true rfl)) (ay_rcvV at_8 rfl) (ev_73 hk8) ?_
            refine ay_t_loc (pc := 31) (L' := [some (.ref 8), none, some (.int y6), some (.int x3)]) fe_162_31 rfl ?_
            refine ay_t_loc (pc := 32) (L' := [some (.ref 8), none, some (.int y6), some (.int (x3 + 1))]) fe_162_32 rfl ?_
            refine ay_t_br (pc := 35) (pc' := 4) fe_162_35 rfl ?_
            exact ay_t_less (ay_ls (ay_ls (ay_ls (ay_ls ay_l0)))) (ih _ _ _ _ _ h)
def fn_162 (a1 : Int32) (D : am_DD) : Option (Int32 × am_DD) := fn_162_4 am_F a1 0 D
set_option maxHeartbeats 2000000 in
theorem ev_162 {a1 : Int32} {D : am_DD} {y : Int32} {Z : am_DD} (h : fn_162 a1 D = some (y, Z)) : ay_mo 162 [.ref 8, .int a1] D (.inl (some (.int y))) Z := by
  unfold fn_162 at h
  refine ay_m_of (L := [some (.ref 8), some (.int a1), none, none]) rfl ?_
  refine ay_t_loc (pc := 0) fe_162_0 rfl ?_
  refine ay_t_loc (pc := 1) (L' := [some (.ref 8), some (.int a1), some (.int a1), none]) fe_162_1 rfl ?_
  refine ay_t_stk (pc := 2) (S' := [.int 0]) fe_162_2 rfl ?_
  refine ay_t_loc (pc := 3) (L' := [some (.ref 8), some (.int a1), some (.int a1), some (.int 0)]) fe_162_3 rfl ?_
  exact ay_t_less (ay_ls (ay_ln (ay_ls (ay_ls ay_l0)))) (ev_162_4 _ _ _ _ _ _ h)
def fn_163 (a1 a2 : Int32) (D : am_DD) : Option (Int32 × Nat × am_DD) := (if a1 < 0 then some (0, 1, D) else (if a2 < 0 then some (0, 1, D) else (if a2 ≤ 4 then (if a1 < (D 19 0) then (if a2 = 0 then some ((rw_at (D 21) 40 a1), 0, D) else (if a2 = 1 then some ((rw_at (D 23) 40 a1), 0, D) else (if a2 = 2 then some ((rw_at (D 25) 40 a1), 0, D) else (if a2 = 3 then (match fn_161 (rw_at (D 21) 40 a1) D with | none => none | some (y9, D10) => some (y9, 0, D10)) else (match fn_162 (rw_at (D 21) 40 a1) D with | none => none | some (y12, D13) => some (y12, 0, D13)))))) else some ((-1), 0, D)) else some (0, 1, D))))
set_option maxHeartbeats 2000000 in
theorem ev_163 {a1 a2 : Int32} {D : am_DD} {y : Int32} {k : Nat} {Z : am_DD} (h : fn_163 a1 a2 D = some (y, k, Z)) : ay_mo 163 [.ref 0, .int a1, .int a2] D (ay_oc y k) Z := by
  unfold fn_163 at h
  refine ay_m_of (L := [some (.ref 0), some (.int a1), some (.int a2)]) rfl ?_
  refine ay_t_loc (pc := 0) fe_163_0 rfl ?_
  by_cases hc1 : a1 < 0
  · rw [if_pos hc1] at h
    refine ay_t_pos (pc := 1) hc1 fe_163_1 rfl ?_
    cases h
    exact ay_t_thr fe_163_13 (by decide)
  · rw [if_neg hc1] at h
    refine ay_t_neg (pc := 1) hc1 fe_163_1 rfl ?_
    refine ay_t_loc (pc := 4) fe_163_4 rfl ?_
    by_cases hc2 : a2 < 0
    · rw [if_pos hc2] at h
      refine ay_t_pos (pc := 5) hc2 fe_163_5 rfl ?_
      cases h
      exact ay_t_thr fe_163_13 (by decide)
    · rw [if_neg hc2] at h
      refine ay_t_neg (pc := 5) hc2 fe_163_5 rfl ?_
      refine ay_t_loc (pc := 8) fe_163_8 rfl ?_
      refine ay_t_stk (pc := 9) (S' := [.int 4, .int a2]) fe_163_9 rfl ?_
      by_cases hc3 : a2 ≤ 4
      · rw [if_pos hc3] at h
        refine ay_t_pos (pc := 10) hc3 fe_163_10 rfl ?_
        refine ay_t_loc (pc := 24) fe_163_24 rfl ?_
        refine ay_t_loc (pc := 25) fe_163_25 rfl ?_
        refine ay_t_getR (pc := 26) (w := .ref 1) fe_163_26 at_0 (by decide +kernel) rfl ?_
        refine ay_t_getR (pc := 29) (w := .ref 19) fe_163_29 at_1 (by decide +kernel) rfl ?_
        refine ay_t_getI (pc := 32) fe_163_32 at_19 (by decide +kernel) rfl ?_
        by_cases hc4 : a1 < (D 19 0)
        · rw [if_pos hc4] at h
          refine ay_t_pos (pc := 35) hc4 fe_163_35 rfl ?_
          refine ay_t_loc (pc := 40) fe_163_40 rfl ?_
          by_cases hc5 : a2 = 0
          · rw [if_pos hc5] at h
            refine ay_t_br (pc := 41) (pc' := 72) (S' := []) fe_163_41 (by rw [hc5]; rfl) ?_
            refine ay_t_loc (pc := 72) fe_163_72 rfl ?_
            refine ay_t_getR (pc := 73) (w := .ref 1) fe_163_73 at_0 (by decide +kernel) rfl ?_
            refine ay_t_getR (pc := 76) (w := .ref 19) fe_163_76 at_1 (by decide +kernel) rfl ?_
            refine ay_t_getR (pc := 79) (w := .ref 20) fe_163_79 at_19 (by decide +kernel) rfl ?_
            refine ay_t_loc (pc := 82) fe_163_82 rfl ?_
            refine ay_t_call (pc := 83) (w := some (.int (rw_at (D 21) 40 a1))) fe_163_83 (ay_args [.ref 20, .int a1] [] rfl rfl (Nat.le_of_ble_eq_true rfl) (Nat.le_of_ble_eq_true rfl)) (ay_rcvV at_20 rfl) (mt_at at_20 at_21 (by decide)) ?_
            cases h
            exact ay_t_iret fe_163_86 rfl rfl
          · rw [if_neg hc5] at h
            by_cases hc6 : a2 = 1
            · rw [if_pos hc6] at h
              refine ay_t_br (pc := 41) (pc' := 87) (S' := []) fe_163_41 (by rw [hc6]; rfl) ?_
              refine ay_t_loc (pc := 87) fe_163_87 rfl ?_
              refine ay_t_getR (pc := 88) (w := .ref 1) fe_163_88 at_0 (by decide +kernel) rfl ?_
              refine ay_t_getR (pc := 91) (w := .ref 19) fe_163_91 at_1 (by decide +kernel) rfl ?_
              refine ay_t_getR (pc := 94) (w := .ref 22) fe_163_94 at_19 (by decide +kernel) rfl ?_
              refine ay_t_loc (pc := 97) fe_163_97 rfl ?_
              refine ay_t_call (pc := 98) (w := some (.int (rw_at (D 23) 40 a1))) fe_163_98 (ay_args [.ref 22, .int a1] [] rfl rfl (Nat.le_of_ble_eq_true rfl) (Nat.le_of_ble_eq_true rfl)) (ay_rcvV at_22 rfl) (mt_at at_22 at_23 (by decide)) ?_
              cases h
              exact ay_t_iret fe_163_101 rfl rfl
            · rw [if_neg hc6] at h
              by_cases hc7 : a2 = 2
              · rw [if_pos hc7] at h
                refine ay_t_br (pc := 41) (pc' := 102) (S' := []) fe_163_41 (by rw [hc7]; rfl) ?_
                refine ay_t_loc (pc := 102) fe_163_102 rfl ?_
                refine ay_t_getR (pc := 103) (w := .ref 1) fe_163_103 at_0 (by decide +kernel) rfl ?_
                refine ay_t_getR (pc := 106) (w := .ref 19) fe_163_106 at_1 (by decide +kernel) rfl ?_
                refine ay_t_getR (pc := 109) (w := .ref 24) fe_163_109 at_19 (by decide +kernel) rfl ?_
                refine ay_t_loc (pc := 112) fe_163_112 rfl ?_
                refine ay_t_call (pc := 113) (w := some (.int (rw_at (D 25) 40 a1))) fe_163_113 (ay_args [.ref 24, .int a1] [] rfl rfl (Nat.le_of_ble_eq_true rfl) (Nat.le_of_ble_eq_true rfl)) (ay_rcvV at_24 rfl) (mt_at at_24 at_25 (by decide)) ?_
                cases h
                exact ay_t_iret fe_163_116 rfl rfl
              · rw [if_neg hc7] at h
                by_cases hc8 : a2 = 3
                · rw [if_pos hc8] at h
                  refine ay_t_br (pc := 41) (pc' := 117) (S' := []) fe_163_41 (by rw [hc8]; rfl) ?_
                  refine ay_t_loc (pc := 117) fe_163_117 rfl ?_
                  refine ay_t_getR (pc := 118) (w := .ref 1) fe_163_118 at_0 (by decide +kernel) rfl ?_
                  refine ay_t_getR (pc := 121) (w := .ref 8) fe_163_121 at_1 (by decide +kernel) rfl ?_
                  refine ay_t_loc (pc := 124) fe_163_124 rfl ?_
                  refine ay_t_getR (pc := 125) (w := .ref 1) fe_163_125 at_0 (by decide +kernel) rfl ?_
                  refine ay_t_getR (pc := 128) (w := .ref 19) fe_163_128 at_1 (by decide +kernel) rfl ?_
                  refine ay_t_getR (pc := 131) (w := .ref 20) fe_163_131 at_19 (by decide +kernel) rfl ?_
                  refine ay_t_loc (pc := 134) fe_163_134 rfl ?_
                  refine ay_t_call (pc := 135) (w := some (.int (rw_at (D 21) 40 a1))) fe_163_135 (ay_args [.ref 20, .int a1] [.ref 8] rfl rfl (Nat.le_of_ble_eq_true rfl) (Nat.le_of_ble_eq_true rfl)) (ay_rcvV at_20 rfl) (mt_at at_20 at_21 (by decide)) ?_
                  cases hk11 : fn_161 (rw_at (D 21) 40 a1) D with
                  | none => rw [hk11] at h; cases h
                  | some z =>
                    obtain ⟨y9, D10⟩ := z
                    rw [hk11] at h
                    dsimp only at h
                    refine ay_t_call (pc := 138) (w := some (.int y9)) fe_163_138 (ay_args [.ref 8, .int (rw_at (D 21) 40 a1)] [] rfl rfl (Nat.le_of_ble_eq_true rfl) (Nat.le_of_ble_eq_true rfl)) (ay_rcvV at_8 rfl) (ev_161 hk11) ?_
                    cases h
                    exact ay_t_iret fe_163_141 rfl rfl
                · rw [if_neg hc8] at h
                  refine ay_t_br (pc := 41) (pc' := 142) fe_163_41 (ay_tab_def (by have z0 := ay_ne_toInt (c := 0) hc5 (by decide); have z1 := ay_ne_toInt (c := 1) hc6 (by decide); have z2 := ay_ne_toInt (c := 2) hc7 (by decide); have z3 := ay_ne_toInt (c := 3) hc8 (by decide); omega) rfl) ?_
                  refine ay_t_loc (pc := 142) fe_163_142 rfl ?_
                  refine ay_t_getR (pc := 143) (w := .ref 1) fe_163_143 at_0 (by decide +kernel) rfl ?_
                  refine ay_t_getR (pc := 146) (w := .ref 8) fe_163_146 at_1 (by decide +kernel) rfl ?_
                  refine ay_t_loc (pc := 149) fe_163_149 rfl ?_
                  refine ay_t_getR (pc := 150) (w := .ref 1) fe_163_150 at_0 (by decide +kernel) rfl ?_
                  refine ay_t_getR (pc := 153) (w := .ref 19) fe_163_153 at_1 (by decide +kernel) rfl ?_
                  refine ay_t_getR (pc := 156) (w := .ref 20) fe_163_156 at_19 (by decide +kernel) rfl ?_
                  refine ay_t_loc (pc := 159) fe_163_159 rfl ?_
                  refine ay_t_call (pc := 160) (w := some (.int (rw_at (D 21) 40 a1))) fe_163_160 (ay_args [.ref 20, .int a1] [.ref 8] rfl rfl (Nat.le_of_ble_eq_true rfl) (Nat.le_of_ble_eq_true rfl)) (ay_rcvV at_20 rfl) (mt_at at_20 at_21 (by decide)) ?_
                  cases hk14 : fn_162 (rw_at (D 21) 40 a1) D with
                  | none => rw [hk14] at h; cases h
                  | some z =>
                    obtain ⟨y12, D13⟩ := z
                    rw [hk14] at h
                    dsimp only at h
                    refine ay_t_call (pc := 163) (w := some (.int y12)) fe_163_163 (ay_args [.ref 8, .int (rw_at (D 21) 40 a1)] [] rfl rfl (Nat.le_of_ble_eq_true rfl) (Nat.le_of_ble_eq_true rfl)) (ay_rcvV at_8 rfl) (ev_162 hk14) ?_
                    cases h
                    exact ay_t_iret fe_163_166 rfl rfl
        · rw [if_neg hc4] at h
          refine ay_t_neg (pc := 35) hc4 fe_163_35 rfl ?_
          refine ay_t_stk (pc := 38) (S' := [.int (-1)]) fe_163_38 rfl ?_
          cases h
          exact ay_t_iret fe_163_39 rfl rfl
      · rw [if_neg hc3] at h
        refine ay_t_neg (pc := 10) hc3 fe_163_10 rfl ?_
        cases h
        exact ay_t_thr fe_163_13 (by decide)
def fn_165_5 : Nat → Int32 → Int32 → Int32 → am_DD → Option (Int32 × am_DD)
  | 0, _, _, _, _ => none
  | n + 1, x2, x3, x4, D => (if 20 ≤ x4 then (if x2 = 0 then some (x3, D) else some ((x4 - 20), D)) else (match fn_48 x4 0 D with | none => none | some (y3, D4) => (match fn_48 x4 (2 + y3) D4 with | none => none | some (y6, D7) => fn_165_5 n x2 (x3 + 1) y6 D7)))
set_option maxHeartbeats 2000000 in
theorem ev_165_5 : ∀ (n : Nat) (x2 x3 x4 : Int32) (D : am_DD) (y : Int32) (Z : am_DD), fn_165_5 n x2 x3 x4 D = some (y, Z) → ay_to 165 5 [some (.ref 321), none, some (.int x2), some (.int x3), some (.int x4)] [] D (.inl (some (.int y))) Z := by
  intro n
  induction n with
  | zero => intro x2 x3 x4 D y Z h; cases h
  | succ n ih =>
    intro x2 x3 x4 D y Z h
    rw [fn_165_5] at h
    refine ay_t_loc (pc := 5) fe_165_5 rfl ?_
    refine ay_t_stk (pc := 7) (S' := [.int 20, .int x4]) fe_165_7 rfl ?_
    by_cases hc1 : 20 ≤ x4
    · rw [if_pos hc1] at h
      refine ay_t_pos (pc := 9) hc1 fe_165_9 rfl ?_
      refine ay_t_loc (pc := 35) fe_165_35 rfl ?_
      by_cases hc2 : x2 = 0
      · rw [if_pos hc2] at h
        refine ay_t_pos (pc := 36) hc2 fe_165_36 rfl ?_
        refine ay_t_loc (pc := 47) fe_165_47 rfl ?_
        cases h
        exact ay_t_iret fe_165_48 rfl rfl
      · rw [if_neg hc2] at h
        refine ay_t_neg (pc := 36) hc2 fe_165_36 rfl ?_
        refine ay_t_loc (pc := 39) fe_165_39 rfl ?_
        refine ay_t_stk (pc := 41) (S' := [.int 20, .int x4]) fe_165_41 rfl ?_
        refine ay_t_stk (pc := 43) (S' := [.int (x4 - 20)]) fe_165_43 rfl ?_
        refine ay_t_br (pc := 44) (pc' := 48) fe_165_44 rfl ?_
        cases h
        exact ay_t_iret fe_165_48 rfl rfl
    · rw [if_neg hc1] at h
      refine ay_t_neg (pc := 9) hc1 fe_165_9 rfl ?_
      refine ay_t_loc (pc := 12) fe_165_12 rfl ?_
      refine ay_t_loc (pc := 13) fe_165_13 rfl ?_
      refine ay_t_stk (pc := 15) (S' := [.int 2, .int x4, .ref 321]) fe_165_15 rfl ?_
      refine ay_t_loc (pc := 16) fe_165_16 rfl ?_
      refine ay_t_loc (pc := 17) fe_165_17 rfl ?_
      refine ay_t_stk (pc := 19) (S' := [.int 0, .int x4, .ref 321, .int 2, .int x4, .ref 321]) fe_165_19 rfl ?_
      cases hk5 : fn_48 x4 0 D with
      | none => rw [hk5] at h; cases h
      | some z =>
        obtain ⟨y3, D4⟩ := z
        rw [hk5] at h
        dsimp only at h
        refine ay_t_call (pc := 20) (w := some (.int y3)) fe_165_20 (ay_args [.ref 321, .int x4, .int 0] [.int 2, .int x4, .ref 321] rfl rfl (Nat.le_of_ble_eq_true rfl) (Nat.le_of_ble_eq_true rfl)) (ay_rcvV at_321 rfl) (ev_48 hk5) ?_
        refine ay_t_stk (pc := 23) (S' := [.int (2 + y3), .int x4, .ref 321]) fe_165_23 rfl ?_
        cases hk8 : fn_48 x4 (2 + y3) D4 with
        | none => rw [hk8] at h; cases h
        | some z =>
          obtain ⟨y6, D7⟩ := z
          rw [hk8] at h
          dsimp only at h
          refine ay_t_call (pc := 24) (w := some (.int y6)) fe_165_24 (ay_args [.ref 321, .int x4, .int (2 + y3)] [] rfl rfl (Nat.le_of_ble_eq_true rfl) (Nat.le_of_ble_eq_true rfl)) (ay_rcvV at_321 rfl) (ev_48 hk8) ?_
          refine ay_t_loc (pc := 27) (L' := [some (.ref 321), none, some (.int x2), some (.int x3), some (.int y6)]) fe_165_27 rfl ?_
          refine ay_t_loc (pc := 29) (L' := [some (.ref 321), none, some (.int x2), some (.int (x3 + 1)), some (.int y6)]) fe_165_29 rfl ?_
          refine ay_t_br (pc := 32) (pc' := 5) fe_165_32 rfl ?_
          exact ay_t_less (ay_ls (ay_ls (ay_ls (ay_ls (ay_ls ay_l0))))) (ih _ _ _ _ _ _ h)
def fn_165 (a1 a2 : Int32) (D : am_DD) : Option (Int32 × am_DD) := fn_165_5 am_F a2 0 a1 D
set_option maxHeartbeats 2000000 in
theorem ev_165 {a1 a2 : Int32} {D : am_DD} {y : Int32} {Z : am_DD} (h : fn_165 a1 a2 D = some (y, Z)) : ay_mo 165 [.ref 321, .int a1, .int a2] D (.inl (some (.int y))) Z := by
  unfold fn_165 at h
  refine ay_m_of (L := [some (.ref 321), some (.int a1), some (.int a2), none, none]) rfl ?_
  refine ay_t_stk (pc := 0) (S' := [.int 0]) fe_165_0 rfl ?_
  refine ay_t_loc (pc := 1) (L' := [some (.ref 321), some (.int a1), some (.int a2), some (.int 0), none]) fe_165_1 rfl ?_
  refine ay_t_loc (pc := 2) fe_165_2 rfl ?_
  refine ay_t_loc (pc := 3) (L' := [some (.ref 321), some (.int a1), some (.int a2), some (.int 0), some (.int a1)]) fe_165_3 rfl ?_
  exact ay_t_less (ay_ls (ay_ln (ay_ls (ay_ls (ay_ls ay_l0))))) (ev_165_5 _ _ _ _ _ _ _ h)
def fn_166 (a1 a2 : Int32) (D : am_DD) : Option (Int32 × am_DD) := (if a1 < 0 then (match fn_29 1 D with | none => none | some (y2, D3) => (if ¬ y2 = 0 then (if a1 < (D3 322 3) then (if 3 ≤ a2 then (match fn_158 a1 0 D3 with | none => none | some (y8, D9) => (if ¬ a2 = 4 then (match fn_165 y8 0 D9 with | none => none | some (y12, D13) => some (y12, D13)) else (match fn_165 y8 1 D9 with | none => none | some (y15, D16) => some (y15, D16)))) else (match fn_158 a1 a2 D3 with | none => none | some (y18, D19) => some (y18, D19))) else some ((-1), D3)) else some (0, D3))) else (match fn_26 a2 0 4 D with | none => none | some (y21, D22) => (if y21 = 0 then (match fn_29 1 D22 with | none => none | some (y25, D26) => (if ¬ y25 = 0 then (if a1 < (D26 322 3) then (if 3 ≤ a2 then (match fn_158 a1 0 D26 with | none => none | some (y31, D32) => (if ¬ a2 = 4 then (match fn_165 y31 0 D32 with | none => none | some (y35, D36) => some (y35, D36)) else (match fn_165 y31 1 D32 with | none => none | some (y38, D39) => some (y38, D39)))) else (match fn_158 a1 a2 D26 with | none => none | some (y41, D42) => some (y41, D42))) else some ((-1), D26)) else some (0, D26))) else (match fn_29 0 D22 with | none => none | some (y44, D45) => (if ¬ y44 = 0 then (if a1 < (D45 322 3) then (if 3 ≤ a2 then (match fn_158 a1 0 D45 with | none => none | some (y50, D51) => (if ¬ a2 = 4 then (match fn_165 y50 0 D51 with | none => none | some (y54, D55) => some (y54, D55)) else (match fn_165 y50 1 D51 with | none => none | some (y57, D58) => some (y57, D58)))) else (match fn_158 a1 a2 D45 with | none => none | some (y60, D61) => some (y60, D61))) else some ((-1), D45)) else some (0, D45))))))
set_option maxHeartbeats 2000000 in
theorem ev_166 {a1 a2 : Int32} {D : am_DD} {y : Int32} {Z : am_DD} (h : fn_166 a1 a2 D = some (y, Z)) : ay_mo 166 [.ref 321, .int a1, .int a2] D (.inl (some (.int y))) Z := by
  unfold fn_166 at h
  refine ay_m_of (L := [some (.ref 321), some (.int a1), some (.int a2)]) rfl ?_
  refine ay_t_loc (pc := 0) fe_166_0 rfl ?_
  refine ay_t_loc (pc := 1) fe_166_1 rfl ?_
  by_cases hc1 : a1 < 0
  · rw [if_pos hc1] at h
    refine ay_t_pos (pc := 2) hc1 fe_166_2 rfl ?_
    refine ay_t_stk (pc := 18) (S' := [.int 1, .ref 321]) fe_166_18 rfl ?_
    cases hk4 : fn_29 1 D with
    | none => rw [hk4] at h; cases h
    | some z =>
      obtain ⟨y2, D3⟩ := z
      rw [hk4] at h
      dsimp only at h
      refine ay_t_call (pc := 19) (w := some (.int y2)) fe_166_19 (ay_args [.ref 321, .int 1] [] rfl rfl (Nat.le_of_ble_eq_true rfl) (Nat.le_of_ble_eq_true rfl)) (ay_rcvV at_321 rfl) (ev_29 hk4) ?_
      by_cases hc5 : ¬ y2 = 0
      · rw [if_pos hc5] at h
        refine ay_t_pos (pc := 22) hc5 fe_166_22 rfl ?_
        refine ay_t_loc (pc := 27) fe_166_27 rfl ?_
        refine ay_t_loc (pc := 28) fe_166_28 rfl ?_
        refine ay_t_getR (pc := 29) (w := .ref 322) fe_166_29 at_321 (by decide +kernel) rfl ?_
        refine ay_t_stk (pc := 32) (S' := [.int 3, .ref 322, .int a1]) fe_166_32 rfl ?_
        refine ay_t_ialoadk (pc := 33) (k := 3) fe_166_33 at_322 (by decide) (by decide) (by decide) ?_
        by_cases hc6 : a1 < (D3 322 3)
        · rw [if_pos hc6] at h
          refine ay_t_pos (pc := 34) hc6 fe_166_34 rfl ?_
          refine ay_t_loc (pc := 39) fe_166_39 rfl ?_
          refine ay_t_stk (pc := 40) (S' := [.int 3, .int a2]) fe_166_40 rfl ?_
          by_cases hc7 : 3 ≤ a2
          · rw [if_pos hc7] at h
            refine ay_t_pos (pc := 41) hc7 fe_166_41 rfl ?_
            refine ay_t_loc (pc := 53) fe_166_53 rfl ?_
            refine ay_t_loc (pc := 54) fe_166_54 rfl ?_
            refine ay_t_loc (pc := 55) fe_166_55 rfl ?_
            refine ay_t_stk (pc := 56) (S' := [.int 0, .int a1, .ref 321, .ref 321]) fe_166_56 rfl ?_
            cases hk10 : fn_158 a1 0 D3 with
            | none => rw [hk10] at h; cases h
            | some z =>
              obtain ⟨y8, D9⟩ := z
              rw [hk10] at h
              dsimp only at h
              refine ay_t_call (pc := 57) (w := some (.int y8)) fe_166_57 (ay_args [.ref 321, .int a1, .int 0] [.ref 321] rfl rfl (Nat.le_of_ble_eq_true rfl) (Nat.le_of_ble_eq_true rfl)) (ay_rcvV at_321 rfl) (ev_158 hk10) ?_
              refine ay_t_loc (pc := 60) fe_166_60 rfl ?_
              refine ay_t_stk (pc := 61) (S' := [.int 4, .int a2, .int y8, .ref 321]) fe_166_61 rfl ?_
              by_cases hc11 : ¬ a2 = 4
              · rw [if_pos hc11] at h
                refine ay_t_pos (pc := 62) hc11 fe_166_62 rfl ?_
                refine ay_t_stk (pc := 69) (S' := [.int 0, .int y8, .ref 321]) fe_166_69 rfl ?_
                cases hk14 : fn_165 y8 0 D9 with
                | none => rw [hk14] at h; cases h
                | some z =>
                  obtain ⟨y12, D13⟩ := z
                  rw [hk14] at h
                  dsimp only at h
                  refine ay_t_call (pc := 70) (w := some (.int y12)) fe_166_70 (ay_args [.ref 321, .int y8, .int 0] [] rfl rfl (Nat.le_of_ble_eq_true rfl) (Nat.le_of_ble_eq_true rfl)) (ay_rcvV at_321 rfl) (ev_165 hk14) ?_
                  cases h
                  exact ay_t_iret fe_166_73 rfl rfl
              · rw [if_neg hc11] at h
                refine ay_t_neg (pc := 62) hc11 fe_166_62 rfl ?_
                refine ay_t_stk (pc := 65) (S' := [.int 1, .int y8, .ref 321]) fe_166_65 rfl ?_
                refine ay_t_br (pc := 66) (pc' := 70) fe_166_66 rfl ?_
                cases hk17 : fn_165 y8 1 D9 with
                | none => rw [hk17] at h; cases h
                | some z =>
                  obtain ⟨y15, D16⟩ := z
                  rw [hk17] at h
                  dsimp only at h
                  refine ay_t_call (pc := 70) (w := some (.int y15)) fe_166_70 (ay_args [.ref 321, .int y8, .int 1] [] rfl rfl (Nat.le_of_ble_eq_true rfl) (Nat.le_of_ble_eq_true rfl)) (ay_rcvV at_321 rfl) (ev_165 hk17) ?_
                  cases h
                  exact ay_t_iret fe_166_73 rfl rfl
          · rw [if_neg hc7] at h
            refine ay_t_neg (pc := 41) hc7 fe_166_41 rfl ?_
            refine ay_t_loc (pc := 44) fe_166_44 rfl ?_
            refine ay_t_loc (pc := 45) fe_166_45 rfl ?_
            refine ay_t_loc (pc := 46) fe_166_46 rfl ?_
            cases hk20 : fn_158 a1 a2 D3 with
            | none => rw [hk20] at h; cases h
            | some z =>
              obtain ⟨y18, D19⟩ := z
              rw [hk20] at h
              dsimp only at h
              refine ay_t_call (pc := 47) (w := some (.int y18)) fe_166_47 (ay_args [.ref 321, .int a1, .int a2] [] rfl rfl (Nat.le_of_ble_eq_true rfl) (Nat.le_of_ble_eq_true rfl)) (ay_rcvV at_321 rfl) (ev_158 hk20) ?_
              refine ay_t_br (pc := 50) (pc' := 73) fe_166_50 rfl ?_
              cases h
              exact ay_t_iret fe_166_73 rfl rfl
        · rw [if_neg hc6] at h
          refine ay_t_neg (pc := 34) hc6 fe_166_34 rfl ?_
          refine ay_t_stk (pc := 37) (S' := [.int (-1)]) fe_166_37 rfl ?_
          cases h
          exact ay_t_iret fe_166_38 rfl rfl
      · rw [if_neg hc5] at h
        refine ay_t_neg (pc := 22) hc5 fe_166_22 rfl ?_
        refine ay_t_stk (pc := 25) (S' := [.int 0]) fe_166_25 rfl ?_
        cases h
        exact ay_t_iret fe_166_26 rfl rfl
  · rw [if_neg hc1] at h
    refine ay_t_neg (pc := 2) hc1 fe_166_2 rfl ?_
    refine ay_t_loc (pc := 5) fe_166_5 rfl ?_
    refine ay_t_stk (pc := 6) (S' := [.int 0, .int a2, .ref 321]) fe_166_6 rfl ?_
    refine ay_t_stk (pc := 7) (S' := [.int 4, .int 0, .int a2, .ref 321]) fe_166_7 rfl ?_
    cases hk23 : fn_26 a2 0 4 D with
    | none => rw [hk23] at h; cases h
    | some z =>
      obtain ⟨y21, D22⟩ := z
      rw [hk23] at h
      dsimp only at h
      refine ay_t_call (pc := 8) (w := some (.int y21)) fe_166_8 (ay_args [.int a2, .int 0, .int 4] [.ref 321] rfl rfl (Nat.le_of_ble_eq_true rfl) (Nat.le_of_ble_eq_true rfl)) rfl (ev_26 hk23) ?_
      by_cases hc24 : y21 = 0
      · rw [if_pos hc24] at h
        refine ay_t_pos (pc := 11) hc24 fe_166_11 rfl ?_
        refine ay_t_stk (pc := 18) (S' := [.int 1, .ref 321]) fe_166_18 rfl ?_
        cases hk27 : fn_29 1 D22 with
        | none => rw [hk27] at h; cases h
        | some z =>
          obtain ⟨y25, D26⟩ := z
          rw [hk27] at h
          dsimp only at h
          refine ay_t_call (pc := 19) (w := some (.int y25)) fe_166_19 (ay_args [.ref 321, .int 1] [] rfl rfl (Nat.le_of_ble_eq_true rfl) (Nat.le_of_ble_eq_true rfl)) (ay_rcvV at_321 rfl) (ev_29 hk27) ?_
          by_cases hc28 : ¬ y25 = 0
          · rw [if_pos hc28] at h
            refine ay_t_pos (pc := 22) hc28 fe_166_22 rfl ?_
            refine ay_t_loc (pc := 27) fe_166_27 rfl ?_
            refine ay_t_loc (pc := 28) fe_166_28 rfl ?_
            refine ay_t_getR (pc := 29) (w := .ref 322) fe_166_29 at_321 (by decide +kernel) rfl ?_
            refine ay_t_stk (pc := 32) (S' := [.int 3, .ref 322, .int a1]) fe_166_32 rfl ?_
            refine ay_t_ialoadk (pc := 33) (k := 3) fe_166_33 at_322 (by decide) (by decide) (by decide) ?_
            by_cases hc29 : a1 < (D26 322 3)
            · rw [if_pos hc29] at h
              refine ay_t_pos (pc := 34) hc29 fe_166_34 rfl ?_
              refine ay_t_loc (pc := 39) fe_166_39 rfl ?_
              refine ay_t_stk (pc := 40) (S' := [.int 3, .int a2]) fe_166_40 rfl ?_
              by_cases hc30 : 3 ≤ a2
              · rw [if_pos hc30] at h
                refine ay_t_pos (pc := 41) hc30 fe_166_41 rfl ?_
                refine ay_t_loc (pc := 53) fe_166_53 rfl ?_
                refine ay_t_loc (pc := 54) fe_166_54 rfl ?_
                refine ay_t_loc (pc := 55) fe_166_55 rfl ?_
                refine ay_t_stk (pc := 56) (S' := [.int 0, .int a1, .ref 321, .ref 321]) fe_166_56 rfl ?_
                cases hk33 : fn_158 a1 0 D26 with
                | none => rw [hk33] at h; cases h
                | some z =>
                  obtain ⟨y31, D32⟩ := z
                  rw [hk33] at h
                  dsimp only at h
                  refine ay_t_call (pc := 57) (w := some (.int y31)) fe_166_57 (ay_args [.ref 321, .int a1, .int 0] [.ref 321] rfl rfl (Nat.le_of_ble_eq_true rfl) (Nat.le_of_ble_eq_true rfl)) (ay_rcvV at_321 rfl) (ev_158 hk33) ?_
                  refine ay_t_loc (pc := 60) fe_166_60 rfl ?_
                  refine ay_t_stk (pc := 61) (S' := [.int 4, .int a2, .int y31, .ref 321]) fe_166_61 rfl ?_
                  by_cases hc34 : ¬ a2 = 4
                  · rw [if_pos hc34] at h
                    refine ay_t_pos (pc := 62) hc34 fe_166_62 rfl ?_
                    refine ay_t_stk (pc := 69) (S' := [.int 0, .int y31, .ref 321]) fe_166_69 rfl ?_
                    cases hk37 : fn_165 y31 0 D32 with
                    | none => rw [hk37] at h; cases h
                    | some z =>
                      obtain ⟨y35, D36⟩ := z
                      rw [hk37] at h
                      dsimp only at h
                      refine ay_t_call (pc := 70) (w := some (.int y35)) fe_166_70 (ay_args [.ref 321, .int y31, .int 0] [] rfl rfl (Nat.le_of_ble_eq_true rfl) (Nat.le_of_ble_eq_true rfl)) (ay_rcvV at_321 rfl) (ev_165 hk37) ?_
                      cases h
                      exact ay_t_iret fe_166_73 rfl rfl
                  · rw [if_neg hc34] at h
                    refine ay_t_neg (pc := 62) hc34 fe_166_62 rfl ?_
                    refine ay_t_stk (pc := 65) (S' := [.int 1, .int y31, .ref 321]) fe_166_65 rfl ?_
                    refine ay_t_br (pc := 66) (pc' := 70) fe_166_66 rfl ?_
                    cases hk40 : fn_165 y31 1 D32 with
                    | none => rw [hk40] at h; cases h
                    | some z =>
                      obtain ⟨y38, D39⟩ := z
                      rw [hk40] at h
                      dsimp only at h
                      refine ay_t_call (pc := 70) (w := some (.int y38)) fe_166_70 (ay_args [.ref 321, .int y31, .int 1] [] rfl rfl (Nat.le_of_ble_eq_true rfl) (Nat.le_of_ble_eq_true rfl)) (ay_rcvV at_321 rfl) (ev_165 hk40) ?_
                      cases h
                      exact ay_t_iret fe_166_73 rfl rfl
              · rw [if_neg hc30] at h
                refine ay_t_neg (pc := 41) hc30 fe_166_41 rfl ?_
                refine ay_t_loc (pc := 44) fe_166_44 rfl ?_
                refine ay_t_loc (pc := 45) fe_166_45 rfl ?_
                refine ay_t_loc (pc := 46) fe_166_46 rfl ?_
                cases hk43 : fn_158 a1 a2 D26 with
                | none => rw [hk43] at h; cases h
                | some z =>
                  obtain ⟨y41, D42⟩ := z
                  rw [hk43] at h
                  dsimp only at h
                  refine ay_t_call (pc := 47) (w := some (.int y41)) fe_166_47 (ay_args [.ref 321, .int a1, .int a2] [] rfl rfl (Nat.le_of_ble_eq_true rfl) (Nat.le_of_ble_eq_true rfl)) (ay_rcvV at_321 rfl) (ev_158 hk43) ?_
                  refine ay_t_br (pc := 50) (pc' := 73) fe_166_50 rfl ?_
                  cases h
                  exact ay_t_iret fe_166_73 rfl rfl
            · rw [if_neg hc29] at h
              refine ay_t_neg (pc := 34) hc29 fe_166_34 rfl ?_
              refine ay_t_stk (pc := 37) (S' := [.int (-1)]) fe_166_37 rfl ?_
              cases h
              exact ay_t_iret fe_166_38 rfl rfl
          · rw [if_neg hc28] at h
            refine ay_t_neg (pc := 22) hc28 fe_166_22 rfl ?_
            refine ay_t_stk (pc := 25) (S' := [.int 0]) fe_166_25 rfl ?_
            cases h
            exact ay_t_iret fe_166_26 rfl rfl
      · rw [if_neg hc24] at h
        refine ay_t_neg (pc := 11) hc24 fe_166_11 rfl ?_
        refine ay_t_stk (pc := 14) (S' := [.int 0, .ref 321]) fe_166_14 rfl ?_
        refine ay_t_br (pc := 15) (pc' := 19) fe_166_15 rfl ?_
        cases hk46 : fn_29 0 D22 with
        | none => rw [hk46] at h; cases h
        | some z =>
          obtain ⟨y44, D45⟩ := z
          rw [hk46] at h
          dsimp only at h
          refine ay_t_call (pc := 19) (w := some (.int y44)) fe_166_19 (ay_args [.ref 321, .int 0] [] rfl rfl (Nat.le_of_ble_eq_true rfl) (Nat.le_of_ble_eq_true rfl)) (ay_rcvV at_321 rfl) (ev_29 hk46) ?_
          by_cases hc47 : ¬ y44 = 0
          · rw [if_pos hc47] at h
            refine ay_t_pos (pc := 22) hc47 fe_166_22 rfl ?_
            refine ay_t_loc (pc := 27) fe_166_27 rfl ?_
            refine ay_t_loc (pc := 28) fe_166_28 rfl ?_
            refine ay_t_getR (pc := 29) (w := .ref 322) fe_166_29 at_321 (by decide +kernel) rfl ?_
            refine ay_t_stk (pc := 32) (S' := [.int 3, .ref 322, .int a1]) fe_166_32 rfl ?_
            refine ay_t_ialoadk (pc := 33) (k := 3) fe_166_33 at_322 (by decide) (by decide) (by decide) ?_
            by_cases hc48 : a1 < (D45 322 3)
            · rw [if_pos hc48] at h
              refine ay_t_pos (pc := 34) hc48 fe_166_34 rfl ?_
              refine ay_t_loc (pc := 39) fe_166_39 rfl ?_
              refine ay_t_stk (pc := 40) (S' := [.int 3, .int a2]) fe_166_40 rfl ?_
              by_cases hc49 : 3 ≤ a2
              · rw [if_pos hc49] at h
                refine ay_t_pos (pc := 41) hc49 fe_166_41 rfl ?_
                refine ay_t_loc (pc := 53) fe_166_53 rfl ?_
                refine ay_t_loc (pc := 54) fe_166_54 rfl ?_
                refine ay_t_loc (pc := 55) fe_166_55 rfl ?_
                refine ay_t_stk (pc := 56) (S' := [.int 0, .int a1, .ref 321, .ref 321]) fe_166_56 rfl ?_
                cases hk52 : fn_158 a1 0 D45 with
                | none => rw [hk52] at h; cases h
                | some z =>
                  obtain ⟨y50, D51⟩ := z
                  rw [hk52] at h
                  dsimp only at h
                  refine ay_t_call (pc := 57) (w := some (.int y50)) fe_166_57 (ay_args [.ref 321, .int a1, .int 0] [.ref 321] rfl rfl (Nat.le_of_ble_eq_true rfl) (Nat.le_of_ble_eq_true rfl)) (ay_rcvV at_321 rfl) (ev_158 hk52) ?_
                  refine ay_t_loc (pc := 60) fe_166_60 rfl ?_
                  refine ay_t_stk (pc := 61) (S' := [.int 4, .int a2, .int y50, .ref 321]) fe_166_61 rfl ?_
                  by_cases hc53 : ¬ a2 = 4
                  · rw [if_pos hc53] at h
                    refine ay_t_pos (pc := 62) hc53 fe_166_62 rfl ?_
                    refine ay_t_stk (pc := 69) (S' := [.int 0, .int y50, .ref 321]) fe_166_69 rfl ?_
                    cases hk56 : fn_165 y50 0 D51 with
                    | none => rw [hk56] at h; cases h
                    | some z =>
                      obtain ⟨y54, D55⟩ := z
                      rw [hk56] at h
                      dsimp only at h
                      refine ay_t_call (pc := 70) (w := some (.int y54)) fe_166_70 (ay_args [.ref 321, .int y50, .int 0] [] rfl rfl (Nat.le_of_ble_eq_true rfl) (Nat.le_of_ble_eq_true rfl)) (ay_rcvV at_321 rfl) (ev_165 hk56) ?_
                      cases h
                      exact ay_t_iret fe_166_73 rfl rfl
                  · rw [if_neg hc53] at h
                    refine ay_t_neg (pc := 62) hc53 fe_166_62 rfl ?_
                    refine ay_t_stk (pc := 65) (S' := [.int 1, .int y50, .ref 321]) fe_166_65 rfl ?_
                    refine ay_t_br (pc := 66) (pc' := 70) fe_166_66 rfl ?_
                    cases hk59 : fn_165 y50 1 D51 with
                    | none => rw [hk59] at h; cases h
                    | some z =>
                      obtain ⟨y57, D58⟩ := z
                      rw [hk59] at h
                      dsimp only at h
                      refine ay_t_call (pc := 70) (w := some (.int y57)) fe_166_70 (ay_args [.ref 321, .int y50, .int 1] [] rfl rfl (Nat.le_of_ble_eq_true rfl) (Nat.le_of_ble_eq_true rfl)) (ay_rcvV at_321 rfl) (ev_165 hk59) ?_
                      cases h
                      exact ay_t_iret fe_166_73 rfl rfl
              · rw [if_neg hc49] at h
                refine ay_t_neg (pc := 41) hc49 fe_166_41 rfl ?_
                refine ay_t_loc (pc := 44) fe_166_44 rfl ?_
                refine ay_t_loc (pc := 45) fe_166_45 rfl ?_
                refine ay_t_loc (pc := 46) fe_166_46 rfl ?_
                cases hk62 : fn_158 a1 a2 D45 with
                | none => rw [hk62] at h; cases h
                | some z =>
                  obtain ⟨y60, D61⟩ := z
                  rw [hk62] at h
                  dsimp only at h
                  refine ay_t_call (pc := 47) (w := some (.int y60)) fe_166_47 (ay_args [.ref 321, .int a1, .int a2] [] rfl rfl (Nat.le_of_ble_eq_true rfl) (Nat.le_of_ble_eq_true rfl)) (ay_rcvV at_321 rfl) (ev_158 hk62) ?_
                  refine ay_t_br (pc := 50) (pc' := 73) fe_166_50 rfl ?_
                  cases h
                  exact ay_t_iret fe_166_73 rfl rfl
            · rw [if_neg hc48] at h
              refine ay_t_neg (pc := 34) hc48 fe_166_34 rfl ?_
              refine ay_t_stk (pc := 37) (S' := [.int (-1)]) fe_166_37 rfl ?_
              cases h
              exact ay_t_iret fe_166_38 rfl rfl
          · rw [if_neg hc47] at h
            refine ay_t_neg (pc := 22) hc47 fe_166_22 rfl ?_
            refine ay_t_stk (pc := 25) (S' := [.int 0]) fe_166_25 rfl ?_
            cases h
            exact ay_t_iret fe_166_26 rfl rfl
def fn_167_4 : Nat → Int32 → Int32 → Int32 → am_DD → Option (Int32 × am_DD)
  | 0, _, _, _, _ => none
  | n + 1, x1, x2, x3, D => (if (D 8 0) ≤ x3 then some (x2, D) else (match fn_73 x3 0 D with | none => none | some (y2, D3) => (if ¬ y2 = (20 + x1) then (match fn_73 x3 1 D3 with | none => none | some (y6, D7) => (if ¬ y6 = (20 + x1) then fn_167_4 n x1 ((x2 + 0) + 0) (x3 + 1) D7 else fn_167_4 n x1 ((x2 + 0) + 1) (x3 + 1) D7)) else (match fn_73 x3 1 D3 with | none => none | some (y10, D11) => (if ¬ y10 = (20 + x1) then fn_167_4 n x1 ((x2 + 1) + 0) (x3 + 1) D11 else fn_167_4 n x1 ((x2 + 1) + 1) (x3 + 1) D11)))))
set_option maxHeartbeats 2000000 in
theorem ev_167_4 : ∀ (n : Nat) (x1 x2 x3 : Int32) (D : am_DD) (y : Int32) (Z : am_DD), fn_167_4 n x1 x2 x3 D = some (y, Z) → ay_to 167 4 [some (.ref 8), some (.int x1), some (.int x2), some (.int x3)] [] D (.inl (some (.int y))) Z := by
  intro n
  induction n with
  | zero => intro x1 x2 x3 D y Z h; cases h
  | succ n ih =>
    intro x1 x2 x3 D y Z h
    rw [fn_167_4] at h
    refine ay_t_loc (pc := 4) fe_167_4 rfl ?_
    refine ay_t_loc (pc := 5) fe_167_5 rfl ?_
    refine ay_t_getI (pc := 6) fe_167_6 at_8 (by decide +kernel) rfl ?_
    by_cases hc1 : (D 8 0) ≤ x3
    · rw [if_pos hc1] at h
      refine ay_t_pos (pc := 9) hc1 fe_167_9 rfl ?_
      refine ay_t_loc (pc := 60) fe_167_60 rfl ?_
      cases h
      exact ay_t_iret fe_167_61 rfl rfl
    · rw [if_neg hc1] at h
      refine ay_t_neg (pc := 9) hc1 fe_167_9 rfl ?_
      refine ay_t_loc (pc := 12) fe_167_12 rfl ?_
      refine ay_t_loc (pc := 13) fe_167_13 rfl ?_
      refine ay_t_loc (pc := 14) fe_167_14 rfl ?_
      refine ay_t_stk (pc := 15) (S' := [.int 0, .int x3, .ref 8, .int x2]) fe_167_15 rfl ?_
      cases hk4 : fn_73 x3 0 D with
      | none => rw [hk4] at h; cases h
      | some z =>
        obtain ⟨y2, D3⟩ := z
        rw [hk4] at h
        dsimp only at h
        refine ay_t_call (pc := 16) (w := some (.int y2)) fe_167_16 (ay_args [.ref 8, .int x3, .int 0] [.int x2] rfl rfl (Nat.le_of_ble_eq_true rfl) (Nat.le_of_ble_eq_true rfl)) (ay_rcvV at_8 rfl) (ev_73 hk4) ?_
        refine ay_t_stk (pc := 19) (S' := [.int 20, .int y2, .int x2]) fe_167_19 rfl ?_
        refine ay_t_loc (pc := 21) fe_167_21 rfl ?_
        refine ay_t_stk (pc := 22) (S' := [.int (20 + x1), .int y2, .int x2]) fe_167_22 rfl ?_
        by_cases hc5 : ¬ y2 = (20 + x1)
        · rw [if_pos hc5] at h
          refine ay_t_pos (pc := 23) hc5 fe_167_23 rfl ?_
          refine ay_t_stk (pc := 30) (S' := [.int 0, .int x2]) fe_167_30 rfl ?_
          refine ay_t_stk (pc := 31) (S' := [.int (x2 + 0)]) fe_167_31 rfl ?_
          refine ay_t_loc (pc := 32) (L' := [some (.ref 8), some (.int x1), some (.int (x2 + 0)), some (.int x3)]) fe_167_32 rfl ?_
          refine ay_t_loc (pc := 33) fe_167_33 rfl ?_
          refine ay_t_loc (pc := 34) fe_167_34 rfl ?_
          refine ay_t_loc (pc := 35) fe_167_35 rfl ?_
          refine ay_t_stk (pc := 36) (S' := [.int 1, .int x3, .ref 8, .int (x2 + 0)]) fe_167_36 rfl ?_
          cases hk8 : fn_73 x3 1 D3 with
          | none => rw [hk8] at h; cases h
          | some z =>
            obtain ⟨y6, D7⟩ := z
            rw [hk8] at h
            dsimp only at h
            refine ay_t_call (pc := 37) (w := some (.int y6)) fe_167_37 (ay_args [.ref 8, .int x3, .int 1] [.int (x2 + 0)] rfl rfl (Nat.le_of_ble_eq_true rfl) (Nat.le_of_ble_eq_true rfl)) (ay_rcvV at_8 rfl) (ev_73 hk8) ?_
            refine ay_t_stk (pc := 40) (S' := [.int 20, .int y6, .int (x2 + 0)]) fe_167_40 rfl ?_
            refine ay_t_loc (pc := 42) fe_167_42 rfl ?_
            refine ay_t_stk (pc := 43) (S' := [.int (20 + x1), .int y6, .int (x2 + 0)]) fe_167_43 rfl ?_
            by_cases hc9 : ¬ y6 = (20 + x1)
            · rw [if_pos hc9] at h
              refine ay_t_pos (pc := 44) hc9 fe_167_44 rfl ?_
              refine ay_t_stk (pc := 51) (S' := [.int 0, .int (x2 + 0)]) fe_167_51 rfl ?_
              refine ay_t_stk (pc := 52) (S' := [.int ((x2 + 0) + 0)]) fe_167_52 rfl ?_
              refine ay_t_loc (pc := 53) (L' := [some (.ref 8), some (.int x1), some (.int ((x2 + 0) + 0)), some (.int x3)]) fe_167_53 rfl ?_
              refine ay_t_loc (pc := 54) (L' := [some (.ref 8), some (.int x1), some (.int ((x2 + 0) + 0)), some (.int (x3 + 1))]) fe_167_54 rfl ?_
              refine ay_t_br (pc := 57) (pc' := 4) fe_167_57 rfl ?_
              exact ay_t_less (ay_ls (ay_ls (ay_ls (ay_ls ay_l0)))) (ih _ _ _ _ _ _ h)
            · rw [if_neg hc9] at h
              refine ay_t_neg (pc := 44) hc9 fe_167_44 rfl ?_
              refine ay_t_stk (pc := 47) (S' := [.int 1, .int (x2 + 0)]) fe_167_47 rfl ?_
              refine ay_t_br (pc := 48) (pc' := 52) fe_167_48 rfl ?_
              refine ay_t_stk (pc := 52) (S' := [.int ((x2 + 0) + 1)]) fe_167_52 rfl ?_
              refine ay_t_loc (pc := 53) (L' := [some (.ref 8), some (.int x1), some (.int ((x2 + 0) + 1)), some (.int x3)]) fe_167_53 rfl ?_
              refine ay_t_loc (pc := 54) (L' := [some (.ref 8), some (.int x1), some (.int ((x2 + 0) + 1)), some (.int (x3 + 1))]) fe_167_54 rfl ?_
              refine ay_t_br (pc := 57) (pc' := 4) fe_167_57 rfl ?_
              exact ay_t_less (ay_ls (ay_ls (ay_ls (ay_ls ay_l0)))) (ih _ _ _ _ _ _ h)
        · rw [if_neg hc5] at h
          refine ay_t_neg (pc := 23) hc5 fe_167_23 rfl ?_
          refine ay_t_stk (pc := 26) (S' := [.int 1, .int x2]) fe_167_26 rfl ?_
          refine ay_t_br (pc := 27) (pc' := 31) fe_167_27 rfl ?_
          refine ay_t_stk (pc := 31) (S' := [.int (x2 + 1)]) fe_167_31 rfl ?_
          refine ay_t_loc (pc := 32) (L' := [some (.ref 8), some (.int x1), some (.int (x2 + 1)), some (.int x3)]) fe_167_32 rfl ?_
          refine ay_t_loc (pc := 33) fe_167_33 rfl ?_
          refine ay_t_loc (pc := 34) fe_167_34 rfl ?_
          refine ay_t_loc (pc := 35) fe_167_35 rfl ?_
          refine ay_t_stk (pc := 36) (S' := [.int 1, .int x3, .ref 8, .int (x2 + 1)]) fe_167_36 rfl ?_
          cases hk12 : fn_73 x3 1 D3 with
          | none => rw [hk12] at h; cases h
          | some z =>
            obtain ⟨y10, D11⟩ := z
            rw [hk12] at h
            dsimp only at h
            refine ay_t_call (pc := 37) (w := some (.int y10)) fe_167_37 (ay_args [.ref 8, .int x3, .int 1] [.int (x2 + 1)] rfl rfl (Nat.le_of_ble_eq_true rfl) (Nat.le_of_ble_eq_true rfl)) (ay_rcvV at_8 rfl) (ev_73 hk12) ?_
            refine ay_t_stk (pc := 40) (S' := [.int 20, .int y10, .int (x2 + 1)]) fe_167_40 rfl ?_
            refine ay_t_loc (pc := 42) fe_167_42 rfl ?_
            refine ay_t_stk (pc := 43) (S' := [.int (20 + x1), .int y10, .int (x2 + 1)]) fe_167_43 rfl ?_
            by_cases hc13 : ¬ y10 = (20 + x1)
            · rw [if_pos hc13] at h
              refine ay_t_pos (pc := 44) hc13 fe_167_44 rfl ?_
              refine ay_t_stk (pc := 51) (S' := [.int 0, .int (x2 + 1)]) fe_167_51 rfl ?_
              refine ay_t_stk (pc := 52) (S' := [.int ((x2 + 1) + 0)]) fe_167_52 rfl ?_
              refine ay_t_loc (pc := 53) (L' := [some (.ref 8), some (.int x1), some (.int ((x2 + 1) + 0)), some (.int x3)]) fe_167_53 rfl ?_
              refine ay_t_loc (pc := 54) (L' := [some (.ref 8), some (.int x1), some (.int ((x2 + 1) + 0)), some (.int (x3 + 1))]) fe_167_54 rfl ?_
              refine ay_t_br (pc := 57) (pc' := 4) fe_167_57 rfl ?_
              exact ay_t_less (ay_ls (ay_ls (ay_ls (ay_ls ay_l0)))) (ih _ _ _ _ _ _ h)
            · rw [if_neg hc13] at h
              refine ay_t_neg (pc := 44) hc13 fe_167_44 rfl ?_
              refine ay_t_stk (pc := 47) (S' := [.int 1, .int (x2 + 1)]) fe_167_47 rfl ?_
              refine ay_t_br (pc := 48) (pc' := 52) fe_167_48 rfl ?_
              refine ay_t_stk (pc := 52) (S' := [.int ((x2 + 1) + 1)]) fe_167_52 rfl ?_
              refine ay_t_loc (pc := 53) (L' := [some (.ref 8), some (.int x1), some (.int ((x2 + 1) + 1)), some (.int x3)]) fe_167_53 rfl ?_
              refine ay_t_loc (pc := 54) (L' := [some (.ref 8), some (.int x1), some (.int ((x2 + 1) + 1)), some (.int (x3 + 1))]) fe_167_54 rfl ?_
              refine ay_t_br (pc := 57) (pc' := 4) fe_167_57 rfl ?_
              exact ay_t_less (ay_ls (ay_ls (ay_ls (ay_ls ay_l0)))) (ih _ _ _ _ _ _ h)
def fn_167 (a1 : Int32) (D : am_DD) : Option (Int32 × am_DD) := fn_167_4 am_F a1 0 0 D
set_option maxHeartbeats 2000000 in
theorem ev_167 {a1 : Int32} {D : am_DD} {y : Int32} {Z : am_DD} (h : fn_167 a1 D = some (y, Z)) : ay_mo 167 [.ref 8, .int a1] D (.inl (some (.int y))) Z := by
  unfold fn_167 at h
  refine ay_m_of (L := [some (.ref 8), some (.int a1), none, none]) rfl ?_
  refine ay_t_stk (pc := 0) (S' := [.int 0]) fe_167_0 rfl ?_
  refine ay_t_loc (pc := 1) (L' := [some (.ref 8), some (.int a1), some (.int 0), none]) fe_167_1 rfl ?_
  refine ay_t_stk (pc := 2) (S' := [.int 0]) fe_167_2 rfl ?_
  refine ay_t_loc (pc := 3) (L' := [some (.ref 8), some (.int a1), some (.int 0), some (.int 0)]) fe_167_3 rfl ?_
  exact ay_t_less (ay_ls (ay_ls (ay_ls (ay_ls ay_l0)))) (ev_167_4 _ _ _ _ _ _ _ h)
def fn_168 (a1 a2 : Int32) (D : am_DD) : Option (Int32 × Nat × am_DD) := (match fn_91 a1 D with | none => none | some (y1, D2) => (if ¬ y1 = 0 then (if a2 = 0 then some ((rw_at (D2 5) 5 a1), 0, D2) else (if a2 = 1 then some ((rw_at (D2 7) 5 a1), 0, D2) else (if a2 = 2 then (match fn_167 a1 D2 with | none => none | some (y8, D9) => some (y8, 0, D9)) else some (0, 1, D2)))) else some (0, 3, D2)))
set_option maxHeartbeats 2000000 in
theorem ev_168 {a1 a2 : Int32} {D : am_DD} {y : Int32} {k : Nat} {Z : am_DD} (h : fn_168 a1 a2 D = some (y, k, Z)) : ay_mo 168 [.ref 0, .int a1, .int a2] D (ay_oc y k) Z := by
  unfold fn_168 at h
  refine ay_m_of (L := [some (.ref 0), some (.int a1), some (.int a2)]) rfl ?_
  refine ay_t_loc (pc := 0) fe_168_0 rfl ?_
  cases hk3 : fn_91 a1 D with
  | none => rw [hk3] at h; cases h
  | some z =>
    obtain ⟨y1, D2⟩ := z
    rw [hk3] at h
    dsimp only at h
    refine ay_t_call (pc := 1) (w := some (.int y1)) fe_168_1 (ay_args [.int a1] [] rfl rfl (Nat.le_of_ble_eq_true rfl) (Nat.le_of_ble_eq_true rfl)) rfl (ev_91 hk3) ?_
    by_cases hc4 : ¬ y1 = 0
    · rw [if_pos hc4] at h
      refine ay_t_pos (pc := 4) hc4 fe_168_4 rfl ?_
      refine ay_t_loc (pc := 17) fe_168_17 rfl ?_
      by_cases hc5 : a2 = 0
      · rw [if_pos hc5] at h
        refine ay_t_br (pc := 18) (pc' := 44) (S' := []) fe_168_18 (by rw [hc5]; rfl) ?_
        refine ay_t_loc (pc := 44) fe_168_44 rfl ?_
        refine ay_t_getR (pc := 45) (w := .ref 1) fe_168_45 at_0 (by decide +kernel) rfl ?_
        refine ay_t_getR (pc := 48) (w := .ref 4) fe_168_48 at_1 (by decide +kernel) rfl ?_
        refine ay_t_loc (pc := 51) fe_168_51 rfl ?_
        refine ay_t_call (pc := 52) (w := some (.int (rw_at (D2 5) 5 a1))) fe_168_52 (ay_args [.ref 4, .int a1] [] rfl rfl (Nat.le_of_ble_eq_true rfl) (Nat.le_of_ble_eq_true rfl)) (ay_rcvV at_4 rfl) (mt_at at_4 at_5 (by decide)) ?_
        cases h
        exact ay_t_iret fe_168_55 rfl rfl
      · rw [if_neg hc5] at h
        by_cases hc6 : a2 = 1
        · rw [if_pos hc6] at h
          refine ay_t_br (pc := 18) (pc' := 56) (S' := []) fe_168_18 (by rw [hc6]; rfl) ?_
          refine ay_t_loc (pc := 56) fe_168_56 rfl ?_
          refine ay_t_getR (pc := 57) (w := .ref 1) fe_168_57 at_0 (by decide +kernel) rfl ?_
          refine ay_t_getR (pc := 60) (w := .ref 6) fe_168_60 at_1 (by decide +kernel) rfl ?_
          refine ay_t_loc (pc := 63) fe_168_63 rfl ?_
          refine ay_t_call (pc := 64) (w := some (.int (rw_at (D2 7) 5 a1))) fe_168_64 (ay_args [.ref 6, .int a1] [] rfl rfl (Nat.le_of_ble_eq_true rfl) (Nat.le_of_ble_eq_true rfl)) (ay_rcvV at_6 rfl) (mt_at at_6 at_7 (by decide)) ?_
          cases h
          exact ay_t_iret fe_168_67 rfl rfl
        · rw [if_neg hc6] at h
          by_cases hc7 : a2 = 2
          · rw [if_pos hc7] at h
            refine ay_t_br (pc := 18) (pc' := 68) (S' := []) fe_168_18 (by rw [hc7]; rfl) ?_
            refine ay_t_loc (pc := 68) fe_168_68 rfl ?_
            refine ay_t_getR (pc := 69) (w := .ref 1) fe_168_69 at_0 (by decide +kernel) rfl ?_
            refine ay_t_getR (pc := 72) (w := .ref 8) fe_168_72 at_1 (by decide +kernel) rfl ?_
            refine ay_t_loc (pc := 75) fe_168_75 rfl ?_
            cases hk10 : fn_167 a1 D2 with
            | none => rw [hk10] at h; cases h
            | some z =>
              obtain ⟨y8, D9⟩ := z
              rw [hk10] at h
              dsimp only at h
              refine ay_t_call (pc := 76) (w := some (.int y8)) fe_168_76 (ay_args [.ref 8, .int a1] [] rfl rfl (Nat.le_of_ble_eq_true rfl) (Nat.le_of_ble_eq_true rfl)) (ay_rcvV at_8 rfl) (ev_167 hk10) ?_
              cases h
              exact ay_t_iret fe_168_79 rfl rfl
          · rw [if_neg hc7] at h
            refine ay_t_br (pc := 18) (pc' := 80) fe_168_18 (ay_tab_def (by have z0 := ay_ne_toInt (c := 0) hc5 (by decide); have z1 := ay_ne_toInt (c := 1) hc6 (by decide); have z2 := ay_ne_toInt (c := 2) hc7 (by decide); omega) rfl) ?_
            cases h
            exact ay_t_thr fe_168_80 (by decide)
    · rw [if_neg hc4] at h
      refine ay_t_neg (pc := 4) hc4 fe_168_4 rfl ?_
      cases h
      exact ay_t_thr fe_168_7 (by decide)
def fn_170_4 : Nat → Int32 → Int32 → Int32 → am_DD → Option (Int32 × am_DD)
  | 0, _, _, _, _ => none
  | n + 1, x1, x2, x3, D => (if (D 322 1) ≤ x3 then some (x2, D) else (match fn_48 x3 2 D with | none => none | some (y2, D3) => (if ¬ y2 = x1 then (match fn_48 x3 3 D3 with | none => none | some (y6, D7) => (if ¬ y6 = x1 then fn_170_4 n x1 (x2 + (0 + 0)) (x3 + 1) D7 else fn_170_4 n x1 (x2 + (0 + 1)) (x3 + 1) D7)) else (match fn_48 x3 3 D3 with | none => none | some (y10, D11) => (if ¬ y10 = x1 then fn_170_4 n x1 (x2 + (1 + 0)) (x3 + 1) D11 else fn_170_4 n x1 (x2 + (1 + 1)) (x3 + 1) D11)))))
set_option maxHeartbeats 2000000 in
theorem ev_170_4 : ∀ (n : Nat) (x1 x2 x3 : Int32) (D : am_DD) (y : Int32) (Z : am_DD), fn_170_4 n x1 x2 x3 D = some (y, Z) → ay_to 170 4 [some (.ref 321), some (.int x1), some (.int x2), some (.int x3)] [] D (.inl (some (.int y))) Z := by
  intro n
  induction n with
  | zero => intro x1 x2 x3 D y Z h; cases h
  | succ n ih =>
    intro x1 x2 x3 D y Z h
    rw [fn_170_4] at h
    refine ay_t_loc (pc := 4) fe_170_4 rfl ?_
    refine ay_t_loc (pc := 5) fe_170_5 rfl ?_
    refine ay_t_getR (pc := 6) (w := .ref 322) fe_170_6 at_321 (by decide +kernel) rfl ?_
    refine ay_t_stk (pc := 9) (S' := [.int 1, .ref 322, .int x3]) fe_170_9 rfl ?_
    refine ay_t_ialoadk (pc := 10) (k := 1) fe_170_10 at_322 (by decide) (by decide) (by decide) ?_
    by_cases hc1 : (D 322 1) ≤ x3
    · rw [if_pos hc1] at h
      refine ay_t_pos (pc := 11) hc1 fe_170_11 rfl ?_
      refine ay_t_loc (pc := 54) fe_170_54 rfl ?_
      cases h
      exact ay_t_iret fe_170_55 rfl rfl
    · rw [if_neg hc1] at h
      refine ay_t_neg (pc := 11) hc1 fe_170_11 rfl ?_
      refine ay_t_loc (pc := 14) fe_170_14 rfl ?_
      refine ay_t_loc (pc := 15) fe_170_15 rfl ?_
      refine ay_t_loc (pc := 16) fe_170_16 rfl ?_
      refine ay_t_stk (pc := 17) (S' := [.int 2, .int x3, .ref 321, .int x2]) fe_170_17 rfl ?_
      cases hk4 : fn_48 x3 2 D with
      | none => rw [hk4] at h; cases h
      | some z =>
        obtain ⟨y2, D3⟩ := z
        rw [hk4] at h
        dsimp only at h
        refine ay_t_call (pc := 18) (w := some (.int y2)) fe_170_18 (ay_args [.ref 321, .int x3, .int 2] [.int x2] rfl rfl (Nat.le_of_ble_eq_true rfl) (Nat.le_of_ble_eq_true rfl)) (ay_rcvV at_321 rfl) (ev_48 hk4) ?_
        refine ay_t_loc (pc := 21) fe_170_21 rfl ?_
        by_cases hc5 : ¬ y2 = x1
        · rw [if_pos hc5] at h
          refine ay_t_pos (pc := 22) hc5 fe_170_22 rfl ?_
          refine ay_t_stk (pc := 29) (S' := [.int 0, .int x2]) fe_170_29 rfl ?_
          refine ay_t_loc (pc := 30) fe_170_30 rfl ?_
          refine ay_t_loc (pc := 31) fe_170_31 rfl ?_
          refine ay_t_stk (pc := 32) (S' := [.int 3, .int x3, .ref 321, .int 0, .int x2]) fe_170_32 rfl ?_
          cases hk8 : fn_48 x3 3 D3 with
          | none => rw [hk8] at h; cases h
          | some z =>
            obtain ⟨y6, D7⟩ := z
            rw [hk8] at h
            dsimp only at h
            refine ay_t_call (pc := 33) (w := some (.int y6)) fe_170_33 (ay_args [.ref 321, .int x3, .int 3] [.int 0, .int x2] rfl rfl (Nat.le_of_ble_eq_true rfl) (Nat.le_of_ble_eq_true rfl)) (ay_rcvV at_321 rfl) (ev_48 hk8) ?_
            refine ay_t_loc (pc := 36) fe_170_36 rfl ?_
            by_cases hc9 : ¬ y6 = x1
            · rw [if_pos hc9] at h
              refine ay_t_pos (pc := 37) hc9 fe_170_37 rfl ?_
              refine ay_t_stk (pc := 44) (S' := [.int 0, .int 0, .int x2]) fe_170_44 rfl ?_
              refine ay_t_stk (pc := 45) (S' := [.int (0 + 0), .int x2]) fe_170_45 rfl ?_
              refine ay_t_stk (pc := 46) (S' := [.int (x2 + (0 + 0))]) fe_170_46 rfl ?_
              refine ay_t_loc (pc := 47) (L' := [some (.ref 321), some (.int x1), some (.int (x2 + (0 + 0))), some (.int x3)]) fe_170_47 rfl ?_
              refine ay_t_loc (pc := 48) (L' := [some (.ref 321), some (.int x1), some (.int (x2 + (0 + 0))), some (.int (x3 + 1))]) fe_170_48 rfl ?_
              refine ay_t_br (pc := 51) (pc' := 4) fe_170_51 rfl ?_
              exact ay_t_less (ay_ls (ay_ls (ay_ls (ay_ls ay_l0)))) (ih _ _ _ _ _ _ h)
            · rw [if_neg hc9] at h
              refine ay_t_neg (pc := 37) hc9 fe_170_37 rfl ?_
              refine ay_t_stk (pc := 40) (S' := [.int 1, .int 0, .int x2]) fe_170_40 rfl ?_
              refine ay_t_br (pc := 41) (pc' := 45) fe_170_41 rfl ?_
              refine ay_t_stk (pc := 45) (S' := [.int (0 + 1), .int x2]) fe_170_45 rfl ?_
              refine ay_t_stk (pc := 46) (S' := [.int (x2 + (0 + 1))]) fe_170_46 rfl ?_
              refine ay_t_loc (pc := 47) (L' := [some (.ref 321), some (.int x1), some (.int (x2 + (0 + 1))), some (.int x3)]) fe_170_47 rfl ?_
              refine ay_t_loc (pc := 48) (L' := [some (.ref 321), some (.int x1), some (.int (x2 + (0 + 1))), some (.int (x3 + 1))]) fe_170_48 rfl ?_
              refine ay_t_br (pc := 51) (pc' := 4) fe_170_51 rfl ?_
              exact ay_t_less (ay_ls (ay_ls (ay_ls (ay_ls ay_l0)))) (ih _ _ _ _ _ _ h)
        · rw [if_neg hc5] at h
          refine ay_t_neg (pc := 22) hc5 fe_170_22 rfl ?_
          refine ay_t_stk (pc := 25) (S' := [.int 1, .int x2]) fe_170_25 rfl ?_
          refine ay_t_br (pc := 26) (pc' := 30) fe_170_26 rfl ?_
          refine ay_t_loc (pc := 30) fe_170_30 rfl ?_
          refine ay_t_loc (pc := 31) fe_170_31 rfl ?_
          refine ay_t_stk (pc := 32) (S' := [.int 3, .int x3, .ref 321, .int 1, .int x2]) fe_170_32 rfl ?_
          cases hk12 : fn_48 x3 3 D3 with
          | none => rw [hk12] at h; cases h
          | some z =>
            obtain ⟨y10, D11⟩ := z
            rw [hk12] at h
            dsimp only at h
            refine ay_t_call (pc := 33) (w := some (.int y10)) fe_170_33 (ay_args [.ref 321, .int x3, .int 3] [.int 1, .int x2] rfl rfl (Nat.le_of_ble_eq_true rfl) (Nat.le_of_ble_eq_true rfl)) (ay_rcvV at_321 rfl) (ev_48 hk12) ?_
            refine ay_t_loc (pc := 36) fe_170_36 rfl ?_
            by_cases hc13 : ¬ y10 = x1
            · rw [if_pos hc13] at h
              refine ay_t_pos (pc := 37) hc13 fe_170_37 rfl ?_
              refine ay_t_stk (pc := 44) (S' := [.int 0, .int 1, .int x2]) fe_170_44 rfl ?_
              refine ay_t_stk (pc := 45) (S' := [.int (1 + 0), .int x2]) fe_170_45 rfl ?_
              refine ay_t_stk (pc := 46) (S' := [.int (x2 + (1 + 0))]) fe_170_46 rfl ?_
              refine ay_t_loc (pc := 47) (L' := [some (.ref 321), some (.int x1), some (.int (x2 + (1 + 0))), some (.int x3)]) fe_170_47 rfl ?_
              refine ay_t_loc (pc := 48) (L' := [some (.ref 321), some (.int x1), some (.int (x2 + (1 + 0))), some (.int (x3 + 1))]) fe_170_48 rfl ?_
              refine ay_t_br (pc := 51) (pc' := 4) fe_170_51 rfl ?_
              exact ay_t_less (ay_ls (ay_ls (ay_ls (ay_ls ay_l0)))) (ih _ _ _ _ _ _ h)
            · rw [if_neg hc13] at h
              refine ay_t_neg (pc := 37) hc13 fe_170_37 rfl ?_
              refine ay_t_stk (pc := 40) (S' := [.int 1, .int 1, .int x2]) fe_170_40 rfl ?_
              refine ay_t_br (pc := 41) (pc' := 45) fe_170_41 rfl ?_
              refine ay_t_stk (pc := 45) (S' := [.int (1 + 1), .int x2]) fe_170_45 rfl ?_
              refine ay_t_stk (pc := 46) (S' := [.int (x2 + (1 + 1))]) fe_170_46 rfl ?_
              refine ay_t_loc (pc := 47) (L' := [some (.ref 321), some (.int x1), some (.int (x2 + (1 + 1))), some (.int x3)]) fe_170_47 rfl ?_
              refine ay_t_loc (pc := 48) (L' := [some (.ref 321), some (.int x1), some (.int (x2 + (1 + 1))), some (.int (x3 + 1))]) fe_170_48 rfl ?_
              refine ay_t_br (pc := 51) (pc' := 4) fe_170_51 rfl ?_
              exact ay_t_less (ay_ls (ay_ls (ay_ls (ay_ls ay_l0)))) (ih _ _ _ _ _ _ h)
def fn_170 (a1 : Int32) (D : am_DD) : Option (Int32 × am_DD) := fn_170_4 am_F a1 0 0 D
set_option maxHeartbeats 2000000 in
theorem ev_170 {a1 : Int32} {D : am_DD} {y : Int32} {Z : am_DD} (h : fn_170 a1 D = some (y, Z)) : ay_mo 170 [.ref 321, .int a1] D (.inl (some (.int y))) Z := by
  unfold fn_170 at h
  refine ay_m_of (L := [some (.ref 321), some (.int a1), none, none]) rfl ?_
  refine ay_t_stk (pc := 0) (S' := [.int 0]) fe_170_0 rfl ?_
  refine ay_t_loc (pc := 1) (L' := [some (.ref 321), some (.int a1), some (.int 0), none]) fe_170_1 rfl ?_
  refine ay_t_stk (pc := 2) (S' := [.int 0]) fe_170_2 rfl ?_
  refine ay_t_loc (pc := 3) (L' := [some (.ref 321), some (.int a1), some (.int 0), some (.int 0)]) fe_170_3 rfl ?_
  exact ay_t_less (ay_ls (ay_ls (ay_ls (ay_ls ay_l0)))) (ev_170_4 _ _ _ _ _ _ _ h)
def fn_171 (a1 a2 : Int32) (D : am_DD) : Option (Int32 × am_DD) := (match fn_45 a1 D with | none => none | some (y1, D2) => (if ¬ y1 = 0 then (match fn_26 a2 0 2 D2 with | none => none | some (y5, D6) => (if ¬ y5 = 0 then (match fn_29 0 D6 with | none => none | some (y9, D10) => (if ¬ y9 = 0 then (if ¬ a2 = 0 then (if ¬ a2 = 1 then (match fn_170 (20 + a1) D10 with | none => none | some (y15, D16) => some (y15, D16)) else (if (100 + a1) < 0 ∨ 405 ≤ (100 + a1).toNatClampNeg then none else some ((D10 322 (100 + a1).toNatClampNeg), D10))) else (if (95 + a1) < 0 ∨ 405 ≤ (95 + a1).toNatClampNeg then none else some ((D10 322 (95 + a1).toNatClampNeg), D10))) else some (0, D10))) else (match fn_29 2 D6 with | none => none | some (y20, D21) => (if ¬ y20 = 0 then (if ¬ a2 = 0 then (if ¬ a2 = 1 then (match fn_170 (20 + a1) D21 with | none => none | some (y26, D27) => some (y26, D27)) else (if (100 + a1) < 0 ∨ 405 ≤ (100 + a1).toNatClampNeg then none else some ((D21 322 (100 + a1).toNatClampNeg), D21))) else (if (95 + a1) < 0 ∨ 405 ≤ (95 + a1).toNatClampNeg then none else some ((D21 322 (95 + a1).toNatClampNeg), D21))) else some (0, D21))))) else (match fn_29 1 D2 with | none => none | some (y31, D32) => (if ¬ y31 = 0 then (if ¬ a2 = 0 then (if ¬ a2 = 1 then (match fn_170 (20 + a1) D32 with | none => none | some (y37, D38) => some (y37, D38)) else (if (100 + a1) < 0 ∨ 405 ≤ (100 + a1).toNatClampNeg then none else some ((D32 322 (100 + a1).toNatClampNeg), D32))) else (if (95 + a1) < 0 ∨ 405 ≤ (95 + a1).toNatClampNeg then none else some ((D32 322 (95 + a1).toNatClampNeg), D32))) else some (0, D32)))))
set_option maxHeartbeats 2000000 in
theorem ev_171 {a1 a2 : Int32} {D : am_DD} {y : Int32} {Z : am_DD} (h : fn_171 a1 a2 D = some (y, Z)) : ay_mo 171 [.ref 321, .int a1, .int a2] D (.inl (some (.int y))) Z := by
  unfold fn_171 at h
  refine ay_m_of (L := [some (.ref 321), some (.int a1), some (.int a2)]) rfl ?_
  refine ay_t_loc (pc := 0) fe_171_0 rfl ?_
  refine ay_t_loc (pc := 1) fe_171_1 rfl ?_
  cases hk3 : fn_45 a1 D with
  | none => rw [hk3] at h; cases h
  | some z =>
    obtain ⟨y1, D2⟩ := z
    rw [hk3] at h
    dsimp only at h
    refine ay_t_call (pc := 2) (w := some (.int y1)) fe_171_2 (ay_args [.int a1] [.ref 321] rfl rfl (Nat.le_of_ble_eq_true rfl) (Nat.le_of_ble_eq_true rfl)) rfl (ev_45 hk3) ?_
    by_cases hc4 : ¬ y1 = 0
    · rw [if_pos hc4] at h
      refine ay_t_pos (pc := 5) hc4 fe_171_5 rfl ?_
      refine ay_t_loc (pc := 12) fe_171_12 rfl ?_
      refine ay_t_stk (pc := 13) (S' := [.int 0, .int a2, .ref 321]) fe_171_13 rfl ?_
      refine ay_t_stk (pc := 14) (S' := [.int 2, .int 0, .int a2, .ref 321]) fe_171_14 rfl ?_
      cases hk7 : fn_26 a2 0 2 D2 with
      | none => rw [hk7] at h; cases h
      | some z =>
        obtain ⟨y5, D6⟩ := z
        rw [hk7] at h
        dsimp only at h
        refine ay_t_call (pc := 15) (w := some (.int y5)) fe_171_15 (ay_args [.int a2, .int 0, .int 2] [.ref 321] rfl rfl (Nat.le_of_ble_eq_true rfl) (Nat.le_of_ble_eq_true rfl)) rfl (ev_26 hk7) ?_
        by_cases hc8 : ¬ y5 = 0
        · rw [if_pos hc8] at h
          refine ay_t_pos (pc := 18) hc8 fe_171_18 rfl ?_
          refine ay_t_stk (pc := 25) (S' := [.int 0, .ref 321]) fe_171_25 rfl ?_
          cases hk11 : fn_29 0 D6 with
          | none => rw [hk11] at h; cases h
          | some z =>
            obtain ⟨y9, D10⟩ := z
            rw [hk11] at h
            dsimp only at h
            refine ay_t_call (pc := 26) (w := some (.int y9)) fe_171_26 (ay_args [.ref 321, .int 0] [] rfl rfl (Nat.le_of_ble_eq_true rfl) (Nat.le_of_ble_eq_true rfl)) (ay_rcvV at_321 rfl) (ev_29 hk11) ?_
            by_cases hc12 : ¬ y9 = 0
            · rw [if_pos hc12] at h
              refine ay_t_pos (pc := 29) hc12 fe_171_29 rfl ?_
              refine ay_t_loc (pc := 34) fe_171_34 rfl ?_
              by_cases hc13 : ¬ a2 = 0
              · rw [if_pos hc13] at h
                refine ay_t_pos (pc := 35) hc13 fe_171_35 rfl ?_
                refine ay_t_loc (pc := 50) fe_171_50 rfl ?_
                refine ay_t_stk (pc := 51) (S' := [.int 1, .int a2]) fe_171_51 rfl ?_
                by_cases hc14 : ¬ a2 = 1
                · rw [if_pos hc14] at h
                  refine ay_t_pos (pc := 52) hc14 fe_171_52 rfl ?_
                  refine ay_t_loc (pc := 67) fe_171_67 rfl ?_
                  refine ay_t_stk (pc := 68) (S' := [.int 20, .ref 321]) fe_171_68 rfl ?_
                  refine ay_t_loc (pc := 70) fe_171_70 rfl ?_
                  refine ay_t_stk (pc := 71) (S' := [.int (20 + a1), .ref 321]) fe_171_71 rfl ?_
                  cases hk17 : fn_170 (20 + a1) D10 with
                  | none => rw [hk17] at h; cases h
                  | some z =>
                    obtain ⟨y15, D16⟩ := z
                    rw [hk17] at h
                    dsimp only at h
                    refine ay_t_call (pc := 72) (w := some (.int y15)) fe_171_72 (ay_args [.ref 321, .int (20 + a1)] [] rfl rfl (Nat.le_of_ble_eq_true rfl) (Nat.le_of_ble_eq_true rfl)) (ay_rcvV at_321 rfl) (ev_170 hk17) ?_
                    cases h
                    exact ay_t_iret fe_171_75 rfl rfl
                · rw [if_neg hc14] at h
                  refine ay_t_neg (pc := 52) hc14 fe_171_52 rfl ?_
                  refine ay_t_loc (pc := 55) fe_171_55 rfl ?_
                  refine ay_t_getR (pc := 56) (w := .ref 322) fe_171_56 at_321 (by decide +kernel) rfl ?_
                  refine ay_t_stk (pc := 59) (S' := [.int 100, .ref 322]) fe_171_59 rfl ?_
                  refine ay_t_loc (pc := 61) fe_171_61 rfl ?_
                  refine ay_t_stk (pc := 62) (S' := [.int (100 + a1), .ref 322]) fe_171_62 rfl ?_
                  by_cases hb18 : (100 + a1) < 0 ∨ 405 ≤ (100 + a1).toNatClampNeg
                  · rw [if_pos hb18] at h; cases h
                  rw [if_neg hb18] at h
                  refine ay_t_iaload (pc := 63) fe_171_63 at_322 (by decide) hb18 ?_
                  refine ay_t_br (pc := 64) (pc' := 75) fe_171_64 rfl ?_
                  cases h
                  exact ay_t_iret fe_171_75 rfl rfl
              · rw [if_neg hc13] at h
                refine ay_t_neg (pc := 35) hc13 fe_171_35 rfl ?_
                refine ay_t_loc (pc := 38) fe_171_38 rfl ?_
                refine ay_t_getR (pc := 39) (w := .ref 322) fe_171_39 at_321 (by decide +kernel) rfl ?_
                refine ay_t_stk (pc := 42) (S' := [.int 95, .ref 322]) fe_171_42 rfl ?_
                refine ay_t_loc (pc := 44) fe_171_44 rfl ?_
                refine ay_t_stk (pc := 45) (S' := [.int (95 + a1), .ref 322]) fe_171_45 rfl ?_
                by_cases hb19 : (95 + a1) < 0 ∨ 405 ≤ (95 + a1).toNatClampNeg
                · rw [if_pos hb19] at h; cases h
                rw [if_neg hb19] at h
                refine ay_t_iaload (pc := 46) fe_171_46 at_322 (by decide) hb19 ?_
                refine ay_t_br (pc := 47) (pc' := 75) fe_171_47 rfl ?_
                cases h
                exact ay_t_iret fe_171_75 rfl rfl
            · rw [if_neg hc12] at h
              refine ay_t_neg (pc := 29) hc12 fe_171_29 rfl ?_
              refine ay_t_stk (pc := 32) (S' := [.int 0]) fe_171_32 rfl ?_
              cases h
              exact ay_t_iret fe_171_33 rfl rfl
        · rw [if_neg hc8] at h
          refine ay_t_neg (pc := 18) hc8 fe_171_18 rfl ?_
          refine ay_t_stk (pc := 21) (S' := [.int 2, .ref 321]) fe_171_21 rfl ?_
          refine ay_t_br (pc := 22) (pc' := 26) fe_171_22 rfl ?_
          cases hk22 : fn_29 2 D6 with
          | none => rw [hk22] at h; cases h
          | some z =>
            obtain ⟨y20, D21⟩ := z
            rw [hk22] at h
            dsimp only at h
            refine ay_t_call (pc := 26) (w := some (.int y20)) fe_171_26 (ay_args [.ref 321, .int 2] [] rfl rfl (Nat.le_of_ble_eq_true rfl) (Nat.le_of_ble_eq_true rfl)) (ay_rcvV at_321 rfl) (ev_29 hk22) ?_
            by_cases hc23 : ¬ y20 = 0
            · rw [if_pos hc23] at h
              refine ay_t_pos (pc := 29) hc23 fe_171_29 rfl ?_
              refine ay_t_loc (pc := 34) fe_171_34 rfl ?_
              by_cases hc24 : ¬ a2 = 0
              · rw [if_pos hc24] at h
                refine ay_t_pos (pc := 35) hc24 fe_171_35 rfl ?_
                refine ay_t_loc (pc := 50) fe_171_50 rfl ?_
                refine ay_t_stk (pc := 51) (S' := [.int 1, .int a2]) fe_171_51 rfl ?_
                by_cases hc25 : ¬ a2 = 1
                · rw [if_pos hc25] at h
                  refine ay_t_pos (pc := 52) hc25 fe_171_52 rfl ?_
                  refine ay_t_loc (pc := 67) fe_171_67 rfl ?_
                  refine ay_t_stk (pc := 68) (S' := [.int 20, .ref 321]) fe_171_68 rfl ?_
                  refine ay_t_loc (pc := 70) fe_171_70 rfl ?_
                  refine ay_t_stk (pc := 71) (S' := [.int (20 + a1), .ref 321]) fe_171_71 rfl ?_
                  cases hk28 : fn_170 (20 + a1) D21 with
                  | none => rw [hk28] at h; cases h
                  | some z =>
                    obtain ⟨y26, D27⟩ := z
                    rw [hk28] at h
                    dsimp only at h
                    refine ay_t_call (pc := 72) (w := some (.int y26)) fe_171_72 (ay_args [.ref 321, .int (20 + a1)] [] rfl rfl (Nat.le_of_ble_eq_true rfl) (Nat.le_of_ble_eq_true rfl)) (ay_rcvV at_321 rfl) (ev_170 hk28) ?_
                    cases h
                    exact ay_t_iret fe_171_75 rfl rfl
                · rw [if_neg hc25] at h
                  refine ay_t_neg (pc := 52) hc25 fe_171_52 rfl ?_
                  refine ay_t_loc (pc := 55) fe_171_55 rfl ?_
                  refine ay_t_getR (pc := 56) (w := .ref 322) fe_171_56 at_321 (by decide +kernel) rfl ?_
                  refine ay_t_stk (pc := 59) (S' := [.int 100, .ref 322]) fe_171_59 rfl ?_
                  refine ay_t_loc (pc := 61) fe_171_61 rfl ?_
                  refine ay_t_stk (pc := 62) (S' := [.int (100 + a1), .ref 322]) fe_171_62 rfl ?_
                  by_cases hb29 : (100 + a1) < 0 ∨ 405 ≤ (100 + a1).toNatClampNeg
                  · rw [if_pos hb29] at h; cases h
                  rw [if_neg hb29] at h
                  refine ay_t_iaload (pc := 63) fe_171_63 at_322 (by decide) hb29 ?_
                  refine ay_t_br (pc := 64) (pc' := 75) fe_171_64 rfl ?_
                  cases h
                  exact ay_t_iret fe_171_75 rfl rfl
              · rw [if_neg hc24] at h
                refine ay_t_neg (pc := 35) hc24 fe_171_35 rfl ?_
                refine ay_t_loc (pc := 38) fe_171_38 rfl ?_
                refine ay_t_getR (pc := 39) (w := .ref 322) fe_171_39 at_321 (by decide +kernel) rfl ?_
                refine ay_t_stk (pc := 42) (S' := [.int 95, .ref 322]) fe_171_42 rfl ?_
                refine ay_t_loc (pc := 44) fe_171_44 rfl ?_
                refine ay_t_stk (pc := 45) (S' := [.int (95 + a1), .ref 322]) fe_171_45 rfl ?_
                by_cases hb30 : (95 + a1) < 0 ∨ 405 ≤ (95 + a1).toNatClampNeg
                · rw [if_pos hb30] at h; cases h
                rw [if_neg hb30] at h
                refine ay_t_iaload (pc := 46) fe_171_46 at_322 (by decide) hb30 ?_
                refine ay_t_br (pc := 47) (pc' := 75) fe_171_47 rfl ?_
                cases h
                exact ay_t_iret fe_171_75 rfl rfl
            · rw [if_neg hc23] at h
              refine ay_t_neg (pc := 29) hc23 fe_171_29 rfl ?_
              refine ay_t_stk (pc := 32) (S' := [.int 0]) fe_171_32 rfl ?_
              cases h
              exact ay_t_iret fe_171_33 rfl rfl
    · rw [if_neg hc4] at h
      refine ay_t_neg (pc := 5) hc4 fe_171_5 rfl ?_
      refine ay_t_stk (pc := 8) (S' := [.int 1, .ref 321]) fe_171_8 rfl ?_
      refine ay_t_br (pc := 9) (pc' := 26) fe_171_9 rfl ?_
      cases hk33 : fn_29 1 D2 with
      | none => rw [hk33] at h; cases h
      | some z =>
        obtain ⟨y31, D32⟩ := z
        rw [hk33] at h
        dsimp only at h
        refine ay_t_call (pc := 26) (w := some (.int y31)) fe_171_26 (ay_args [.ref 321, .int 1] [] rfl rfl (Nat.le_of_ble_eq_true rfl) (Nat.le_of_ble_eq_true rfl)) (ay_rcvV at_321 rfl) (ev_29 hk33) ?_
        by_cases hc34 : ¬ y31 = 0
        · rw [if_pos hc34] at h
          refine ay_t_pos (pc := 29) hc34 fe_171_29 rfl ?_
          refine ay_t_loc (pc := 34) fe_171_34 rfl ?_
          by_cases hc35 : ¬ a2 = 0
          · rw [if_pos hc35] at h
            refine ay_t_pos (pc := 35) hc35 fe_171_35 rfl ?_
            refine ay_t_loc (pc := 50) fe_171_50 rfl ?_
            refine ay_t_stk (pc := 51) (S' := [.int 1, .int a2]) fe_171_51 rfl ?_
            by_cases hc36 : ¬ a2 = 1
            · rw [if_pos hc36] at h
              refine ay_t_pos (pc := 52) hc36 fe_171_52 rfl ?_
              refine ay_t_loc (pc := 67) fe_171_67 rfl ?_
              refine ay_t_stk (pc := 68) (S' := [.int 20, .ref 321]) fe_171_68 rfl ?_
              refine ay_t_loc (pc := 70) fe_171_70 rfl ?_
              refine ay_t_stk (pc := 71) (S' := [.int (20 + a1), .ref 321]) fe_171_71 rfl ?_
              cases hk39 : fn_170 (20 + a1) D32 with
              | none => rw [hk39] at h; cases h
              | some z =>
                obtain ⟨y37, D38⟩ := z
                rw [hk39] at h
                dsimp only at h
                refine ay_t_call (pc := 72) (w := some (.int y37)) fe_171_72 (ay_args [.ref 321, .int (20 + a1)] [] rfl rfl (Nat.le_of_ble_eq_true rfl) (Nat.le_of_ble_eq_true rfl)) (ay_rcvV at_321 rfl) (ev_170 hk39) ?_
                cases h
                exact ay_t_iret fe_171_75 rfl rfl
            · rw [if_neg hc36] at h
              refine ay_t_neg (pc := 52) hc36 fe_171_52 rfl ?_
              refine ay_t_loc (pc := 55) fe_171_55 rfl ?_
              refine ay_t_getR (pc := 56) (w := .ref 322) fe_171_56 at_321 (by decide +kernel) rfl ?_
              refine ay_t_stk (pc := 59) (S' := [.int 100, .ref 322]) fe_171_59 rfl ?_
              refine ay_t_loc (pc := 61) fe_171_61 rfl ?_
              refine ay_t_stk (pc := 62) (S' := [.int (100 + a1), .ref 322]) fe_171_62 rfl ?_
              by_cases hb40 : (100 + a1) < 0 ∨ 405 ≤ (100 + a1).toNatClampNeg
              · rw [if_pos hb40] at h; cases h
              rw [if_neg hb40] at h
              refine ay_t_iaload (pc := 63) fe_171_63 at_322 (by decide) hb40 ?_
              refine ay_t_br (pc := 64) (pc' := 75) fe_171_64 rfl ?_
              cases h
              exact ay_t_iret fe_171_75 rfl rfl
          · rw [if_neg hc35] at h
            refine ay_t_neg (pc := 35) hc35 fe_171_35 rfl ?_
            refine ay_t_loc (pc := 38) fe_171_38 rfl ?_
            refine ay_t_getR (pc := 39) (w := .ref 322) fe_171_39 at_321 (by decide +kernel) rfl ?_
            refine ay_t_stk (pc := 42) (S' := [.int 95, .ref 322]) fe_171_42 rfl ?_
            refine ay_t_loc (pc := 44) fe_171_44 rfl ?_
            refine ay_t_stk (pc := 45) (S' := [.int (95 + a1), .ref 322]) fe_171_45 rfl ?_
            by_cases hb41 : (95 + a1) < 0 ∨ 405 ≤ (95 + a1).toNatClampNeg
            · rw [if_pos hb41] at h; cases h
            rw [if_neg hb41] at h
            refine ay_t_iaload (pc := 46) fe_171_46 at_322 (by decide) hb41 ?_
            refine ay_t_br (pc := 47) (pc' := 75) fe_171_47 rfl ?_
            cases h
            exact ay_t_iret fe_171_75 rfl rfl
        · rw [if_neg hc34] at h
          refine ay_t_neg (pc := 29) hc34 fe_171_29 rfl ?_
          refine ay_t_stk (pc := 32) (S' := [.int 0]) fe_171_32 rfl ?_
          cases h
          exact ay_t_iret fe_171_33 rfl rfl
def fn_172 (a1 : Int32) (D : am_DD) : Option (Int32 × Nat × am_DD) := (if a1 = 0 then some ((D 1 0), 0, D) else (if a1 = 1 then some ((D 8 0), 0, D) else (if a1 = 2 then some ((D 1 1), 0, D) else (if a1 = 3 then some ((D 19 0), 0, D) else (if a1 = 4 then some ((D 1 2), 0, D) else (if a1 = 5 then some ((rw_at (D 3) 2 0), 0, D) else (if a1 = 6 then some ((rw_at (D 3) 2 1), 0, D) else (if a1 = 7 then some ((D 1 3), 0, D) else (if a1 = 8 then some ((D 1 4), 0, D) else (if a1 = 9 then some ((D 26 2), 0, D) else (if a1 = 10 then (match fn_139 D with | none => none | some (y12, D13) => some (y12, 0, D13)) else (if a1 = 11 then some ((D 45 0), 0, D) else some (0, 1, D)))))))))))))
set_option maxHeartbeats 2000000 in
theorem ev_172 {a1 : Int32} {D : am_DD} {y : Int32} {k : Nat} {Z : am_DD} (h : fn_172 a1 D = some (y, k, Z)) : ay_mo 172 [.ref 0, .int a1] D (ay_oc y k) Z := by
  unfold fn_172 at h
  refine ay_m_of (L := [some (.ref 0), some (.int a1)]) rfl ?_
  refine ay_t_loc (pc := 0) fe_172_0 rfl ?_
  by_cases hc1 : a1 = 0
  · rw [if_pos hc1] at h
    refine ay_t_br (pc := 1) (pc' := 64) (S' := []) fe_172_1 (by rw [hc1]; rfl) ?_
    refine ay_t_loc (pc := 64) fe_172_64 rfl ?_
    refine ay_t_getR (pc := 65) (w := .ref 1) fe_172_65 at_0 (by decide +kernel) rfl ?_
    refine ay_t_getI (pc := 68) fe_172_68 at_1 (by decide +kernel) rfl ?_
    cases h
    exact ay_t_iret fe_172_71 rfl rfl
  · rw [if_neg hc1] at h
    by_cases hc2 : a1 = 1
    · rw [if_pos hc2] at h
      refine ay_t_br (pc := 1) (pc' := 72) (S' := []) fe_172_1 (by rw [hc2]; rfl) ?_
      refine ay_t_loc (pc := 72) fe_172_72 rfl ?_
      refine ay_t_getR (pc := 73) (w := .ref 1) fe_172_73 at_0 (by decide +kernel) rfl ?_
      refine ay_t_getR (pc := 76) (w := .ref 8) fe_172_76 at_1 (by decide +kernel) rfl ?_
      refine ay_t_getI (pc := 79) fe_172_79 at_8 (by decide +kernel) rfl ?_
      cases h
      exact ay_t_iret fe_172_82 rfl rfl
    · rw [if_neg hc2] at h
      by_cases hc3 : a1 = 2
      · rw [if_pos hc3] at h
        refine ay_t_br (pc := 1) (pc' := 83) (S' := []) fe_172_1 (by rw [hc3]; rfl) ?_
        refine ay_t_loc (pc := 83) fe_172_83 rfl ?_
        refine ay_t_getR (pc := 84) (w := .ref 1) fe_172_84 at_0 (by decide +kernel) rfl ?_
        refine ay_t_getI (pc := 87) fe_172_87 at_1 (by decide +kernel) rfl ?_
        cases h
        exact ay_t_iret fe_172_90 rfl rfl
      · rw [if_neg hc3] at h
        by_cases hc4 : a1 = 3
        · rw [if_pos hc4] at h
          refine ay_t_br (pc := 1) (pc' := 91) (S' := []) fe_172_1 (by rw [hc4]; rfl) ?_
          refine ay_t_loc (pc := 91) fe_172_91 rfl ?_
          refine ay_t_getR (pc := 92) (w := .ref 1) fe_172_92 at_0 (by decide +kernel) rfl ?_
          refine ay_t_getR (pc := 95) (w := .ref 19) fe_172_95 at_1 (by decide +kernel) rfl ?_
          refine ay_t_getI (pc := 98) fe_172_98 at_19 (by decide +kernel) rfl ?_
          cases h
          exact ay_t_iret fe_172_101 rfl rfl
        · rw [if_neg hc4] at h
          by_cases hc5 : a1 = 4
          · rw [if_pos hc5] at h
            refine ay_t_br (pc := 1) (pc' := 102) (S' := []) fe_172_1 (by rw [hc5]; rfl) ?_
            refine ay_t_loc (pc := 102) fe_172_102 rfl ?_
            refine ay_t_getR (pc := 103) (w := .ref 1) fe_172_103 at_0 (by decide +kernel) rfl ?_
            refine ay_t_getI (pc := 106) fe_172_106 at_1 (by decide +kernel) rfl ?_
            cases h
            exact ay_t_iret fe_172_109 rfl rfl
          · rw [if_neg hc5] at h
            by_cases hc6 : a1 = 5
            · rw [if_pos hc6] at h
              refine ay_t_br (pc := 1) (pc' := 110) (S' := []) fe_172_1 (by rw [hc6]; rfl) ?_
              refine ay_t_loc (pc := 110) fe_172_110 rfl ?_
              refine ay_t_getR (pc := 111) (w := .ref 1) fe_172_111 at_0 (by decide +kernel) rfl ?_
              refine ay_t_getR (pc := 114) (w := .ref 2) fe_172_114 at_1 (by decide +kernel) rfl ?_
              refine ay_t_stk (pc := 117) (S' := [.int 0, .ref 2]) fe_172_117 rfl ?_
              refine ay_t_call (pc := 118) (w := some (.int (rw_at (D 3) 2 0))) fe_172_118 (ay_args [.ref 2, .int 0] [] rfl rfl (Nat.le_of_ble_eq_true rfl) (Nat.le_of_ble_eq_true rfl)) (ay_rcvV at_2 rfl) (mt_at at_2 at_3 (by decide)) ?_
              cases h
              exact ay_t_iret fe_172_121 rfl rfl
            · rw [if_neg hc6] at h
              by_cases hc7 : a1 = 6
              · rw [if_pos hc7] at h
                refine ay_t_br (pc := 1) (pc' := 122) (S' := []) fe_172_1 (by rw [hc7]; rfl) ?_
                refine ay_t_loc (pc := 122) fe_172_122 rfl ?_
                refine ay_t_getR (pc := 123) (w := .ref 1) fe_172_123 at_0 (by decide +kernel) rfl ?_
                refine ay_t_getR (pc := 126) (w := .ref 2) fe_172_126 at_1 (by decide +kernel) rfl ?_
                refine ay_t_stk (pc := 129) (S' := [.int 1, .ref 2]) fe_172_129 rfl ?_
                refine ay_t_call (pc := 130) (w := some (.int (rw_at (D 3) 2 1))) fe_172_130 (ay_args [.ref 2, .int 1] [] rfl rfl (Nat.le_of_ble_eq_true rfl) (Nat.le_of_ble_eq_true rfl)) (ay_rcvV at_2 rfl) (mt_at at_2 at_3 (by decide)) ?_
                cases h
                exact ay_t_iret fe_172_133 rfl rfl
              · rw [if_neg hc7] at h
                by_cases hc8 : a1 = 7
                · rw [if_pos hc8] at h
                  refine ay_t_br (pc := 1) (pc' := 134) (S' := []) fe_172_1 (by rw [hc8]; rfl) ?_
                  refine ay_t_loc (pc := 134) fe_172_134 rfl ?_
                  refine ay_t_getR (pc := 135) (w := .ref 1) fe_172_135 at_0 (by decide +kernel) rfl ?_
                  refine ay_t_getI (pc := 138) fe_172_138 at_1 (by decide +kernel) rfl ?_
                  cases h
                  exact ay_t_iret fe_172_141 rfl rfl
                · rw [if_neg hc8] at h
                  by_cases hc9 : a1 = 8
                  · rw [if_pos hc9] at h
                    refine ay_t_br (pc := 1) (pc' := 142) (S' := []) fe_172_1 (by rw [hc9]; rfl) ?_
                    refine ay_t_loc (pc := 142) fe_172_142 rfl ?_
                    refine ay_t_getR (pc := 143) (w := .ref 1) fe_172_143 at_0 (by decide +kernel) rfl ?_
                    refine ay_t_getI (pc := 146) fe_172_146 at_1 (by decide +kernel) rfl ?_
                    cases h
                    exact ay_t_iret fe_172_149 rfl rfl
                  · rw [if_neg hc9] at h
                    by_cases hc10 : a1 = 9
                    · rw [if_pos hc10] at h
                      refine ay_t_br (pc := 1) (pc' := 150) (S' := []) fe_172_1 (by rw [hc10]; rfl) ?_
                      refine ay_t_loc (pc := 150) fe_172_150 rfl ?_
                      refine ay_t_getR (pc := 151) (w := .ref 1) fe_172_151 at_0 (by decide +kernel) rfl ?_
                      refine ay_t_getR (pc := 154) (w := .ref 26) fe_172_154 at_1 (by decide +kernel) rfl ?_
                      refine ay_t_getI (pc := 157) fe_172_157 at_26 (by decide +kernel) rfl ?_
                      cases h
                      exact ay_t_iret fe_172_160 rfl rfl
                    · rw [if_neg hc10] at h
                      by_cases hc11 : a1 = 10
                      · rw [if_pos hc11] at h
                        refine ay_t_br (pc := 1) (pc' := 161) (S' := []) fe_172_1 (by rw [hc11]; rfl) ?_
                        refine ay_t_loc (pc := 161) fe_172_161 rfl ?_
                        refine ay_t_getR (pc := 162) (w := .ref 56) fe_172_162 at_0 (by decide +kernel) rfl ?_
                        cases hk14 : fn_139 D with
                        | none => rw [hk14] at h; cases h
                        | some z =>
                          obtain ⟨y12, D13⟩ := z
                          rw [hk14] at h
                          dsimp only at h
                          refine ay_t_call (pc := 165) (w := some (.int y12)) fe_172_165 (ay_args [.ref 56] [] rfl rfl (Nat.le_of_ble_eq_true rfl) (Nat.le_of_ble_eq_true rfl)) (ay_rcvV at_56 rfl) (ev_139 hk14) ?_
                          cases h
                          exact ay_t_iret fe_172_168 rfl rfl
                      · rw [if_neg hc11] at h
                        by_cases hc15 : a1 = 11
                        · rw [if_pos hc15] at h
                          refine ay_t_br (pc := 1) (pc' := 169) (S' := []) fe_172_1 (by rw [hc15]; rfl) ?_
                          refine ay_t_loc (pc := 169) fe_172_169 rfl ?_
                          refine ay_t_getR (pc := 170) (w := .ref 45) fe_172_170 at_0 (by decide +kernel) rfl ?_
                          refine ay_t_getI (pc := 173) fe_172_173 at_45 (by decide +kernel) rfl ?_
                          cases h
                          exact ay_t_iret fe_172_176 rfl rfl
                        · rw [if_neg hc15] at h
                          refine ay_t_br (pc := 1) (pc' := 177) fe_172_1 (ay_tab_def (by have z0 := ay_ne_toInt (c := 0) hc1 (by decide); have z1 := ay_ne_toInt (c := 1) hc2 (by decide); have z2 := ay_ne_toInt (c := 2) hc3 (by decide); have z3 := ay_ne_toInt (c := 3) hc4 (by decide); have z4 := ay_ne_toInt (c := 4) hc5 (by decide); have z5 := ay_ne_toInt (c := 5) hc6 (by decide); have z6 := ay_ne_toInt (c := 6) hc7 (by decide); have z7 := ay_ne_toInt (c := 7) hc8 (by decide); have z8 := ay_ne_toInt (c := 8) hc9 (by decide); have z9 := ay_ne_toInt (c := 9) hc10 (by decide); have z10 := ay_ne_toInt (c := 10) hc11 (by decide); have z11 := ay_ne_toInt (c := 11) hc15 (by decide); omega) rfl) ?_
                          cases h
                          exact ay_t_thr fe_172_177 (by decide)
def fn_174 (a1 : Int32) (D : am_DD) : Option (Int32 × am_DD) := (match fn_26 a1 0 11 D with | none => none | some (y1, D2) => (if y1 = 0 then (match fn_29 1 D2 with | none => none | some (y5, D6) => (if ¬ y5 = 0 then (if 10 ≤ a1 then (if ¬ a1 = 10 then some ((D6 321 6), D6) else some ((D6 321 2), D6)) else (if a1 < 0 ∨ 405 ≤ a1.toNatClampNeg then none else some ((D6 322 a1.toNatClampNeg), D6))) else some (0, D6))) else (match fn_29 0 D2 with | none => none | some (y12, D13) => (if ¬ y12 = 0 then (if 10 ≤ a1 then (if ¬ a1 = 10 then some ((D13 321 6), D13) else some ((D13 321 2), D13)) else (if a1 < 0 ∨ 405 ≤ a1.toNatClampNeg then none else some ((D13 322 a1.toNatClampNeg), D13))) else some (0, D13)))))
set_option maxHeartbeats 2000000 in
theorem ev_174 {a1 : Int32} {D : am_DD} {y : Int32} {Z : am_DD} (h : fn_174 a1 D = some (y, Z)) : ay_mo 174 [.ref 321, .int a1] D (.inl (some (.int y))) Z := by
  unfold fn_174 at h
  refine ay_m_of (L := [some (.ref 321), some (.int a1)]) rfl ?_
  refine ay_t_loc (pc := 0) fe_174_0 rfl ?_
  refine ay_t_loc (pc := 1) fe_174_1 rfl ?_
  refine ay_t_stk (pc := 2) (S' := [.int 0, .int a1, .ref 321]) fe_174_2 rfl ?_
  refine ay_t_stk (pc := 3) (S' := [.int 11, .int 0, .int a1, .ref 321]) fe_174_3 rfl ?_
  cases hk3 : fn_26 a1 0 11 D with
  | none => rw [hk3] at h; cases h
  | some z =>
    obtain ⟨y1, D2⟩ := z
    rw [hk3] at h
    dsimp only at h
    refine ay_t_call (pc := 5) (w := some (.int y1)) fe_174_5 (ay_args [.int a1, .int 0, .int 11] [.ref 321] rfl rfl (Nat.le_of_ble_eq_true rfl) (Nat.le_of_ble_eq_true rfl)) rfl (ev_26 hk3) ?_
    by_cases hc4 : y1 = 0
    · rw [if_pos hc4] at h
      refine ay_t_pos (pc := 8) hc4 fe_174_8 rfl ?_
      refine ay_t_stk (pc := 15) (S' := [.int 1, .ref 321]) fe_174_15 rfl ?_
      cases hk7 : fn_29 1 D2 with
      | none => rw [hk7] at h; cases h
      | some z =>
        obtain ⟨y5, D6⟩ := z
        rw [hk7] at h
        dsimp only at h
        refine ay_t_call (pc := 16) (w := some (.int y5)) fe_174_16 (ay_args [.ref 321, .int 1] [] rfl rfl (Nat.le_of_ble_eq_true rfl) (Nat.le_of_ble_eq_true rfl)) (ay_rcvV at_321 rfl) (ev_29 hk7) ?_
        by_cases hc8 : ¬ y5 = 0
        · rw [if_pos hc8] at h
          refine ay_t_pos (pc := 19) hc8 fe_174_19 rfl ?_
          refine ay_t_loc (pc := 24) fe_174_24 rfl ?_
          refine ay_t_stk (pc := 25) (S' := [.int 10, .int a1]) fe_174_25 rfl ?_
          by_cases hc9 : 10 ≤ a1
          · rw [if_pos hc9] at h
            refine ay_t_pos (pc := 27) hc9 fe_174_27 rfl ?_
            refine ay_t_loc (pc := 39) fe_174_39 rfl ?_
            refine ay_t_stk (pc := 40) (S' := [.int 10, .int a1]) fe_174_40 rfl ?_
            by_cases hc10 : ¬ a1 = 10
            · rw [if_pos hc10] at h
              refine ay_t_pos (pc := 42) hc10 fe_174_42 rfl ?_
              refine ay_t_loc (pc := 52) fe_174_52 rfl ?_
              refine ay_t_getI (pc := 53) fe_174_53 at_321 (by decide +kernel) rfl ?_
              cases h
              exact ay_t_iret fe_174_56 rfl rfl
            · rw [if_neg hc10] at h
              refine ay_t_neg (pc := 42) hc10 fe_174_42 rfl ?_
              refine ay_t_loc (pc := 45) fe_174_45 rfl ?_
              refine ay_t_getI (pc := 46) fe_174_46 at_321 (by decide +kernel) rfl ?_
              refine ay_t_br (pc := 49) (pc' := 56) fe_174_49 rfl ?_
              cases h
              exact ay_t_iret fe_174_56 rfl rfl
          · rw [if_neg hc9] at h
            refine ay_t_neg (pc := 27) hc9 fe_174_27 rfl ?_
            refine ay_t_loc (pc := 30) fe_174_30 rfl ?_
            refine ay_t_getR (pc := 31) (w := .ref 322) fe_174_31 at_321 (by decide +kernel) rfl ?_
            refine ay_t_loc (pc := 34) fe_174_34 rfl ?_
            by_cases hb11 : a1 < 0 ∨ 405 ≤ a1.toNatClampNeg
            · rw [if_pos hb11] at h; cases h
            rw [if_neg hb11] at h
            refine ay_t_iaload (pc := 35) fe_174_35 at_322 (by decide) hb11 ?_
            refine ay_t_br (pc := 36) (pc' := 56) fe_174_36 rfl ?_
            cases h
            exact ay_t_iret fe_174_56 rfl rfl
        · rw [if_neg hc8] at h
          refine ay_t_neg (pc := 19) hc8 fe_174_19 rfl ?_
          refine ay_t_stk (pc := 22) (S' := [.int 0]) fe_174_22 rfl ?_
          cases h
          exact ay_t_iret fe_174_23 rfl rfl
    · rw [if_neg hc4] at h
      refine ay_t_neg (pc := 8) hc4 fe_174_8 rfl ?_
      refine ay_t_stk (pc := 11) (S' := [.int 0, .ref 321]) fe_174_11 rfl ?_
      refine ay_t_br (pc := 12) (pc' := 16) fe_174_12 rfl ?_
      cases hk14 : fn_29 0 D2 with
      | none => rw [hk14] at h; cases h
      | some z =>
        obtain ⟨y12, D13⟩ := z
        rw [hk14] at h
        dsimp only at h
        refine ay_t_call (pc := 16) (w := some (.int y12)) fe_174_16 (ay_args [.ref 321, .int 0] [] rfl rfl (Nat.le_of_ble_eq_true rfl) (Nat.le_of_ble_eq_true rfl)) (ay_rcvV at_321 rfl) (ev_29 hk14) ?_
        by_cases hc15 : ¬ y12 = 0
        · rw [if_pos hc15] at h
          refine ay_t_pos (pc := 19) hc15 fe_174_19 rfl ?_
          refine ay_t_loc (pc := 24) fe_174_24 rfl ?_
          refine ay_t_stk (pc := 25) (S' := [.int 10, .int a1]) fe_174_25 rfl ?_
          by_cases hc16 : 10 ≤ a1
          · rw [if_pos hc16] at h
            refine ay_t_pos (pc := 27) hc16 fe_174_27 rfl ?_
            refine ay_t_loc (pc := 39) fe_174_39 rfl ?_
            refine ay_t_stk (pc := 40) (S' := [.int 10, .int a1]) fe_174_40 rfl ?_
            by_cases hc17 : ¬ a1 = 10
            · rw [if_pos hc17] at h
              refine ay_t_pos (pc := 42) hc17 fe_174_42 rfl ?_
              refine ay_t_loc (pc := 52) fe_174_52 rfl ?_
              refine ay_t_getI (pc := 53) fe_174_53 at_321 (by decide +kernel) rfl ?_
              cases h
              exact ay_t_iret fe_174_56 rfl rfl
            · rw [if_neg hc17] at h
              refine ay_t_neg (pc := 42) hc17 fe_174_42 rfl ?_
              refine ay_t_loc (pc := 45) fe_174_45 rfl ?_
              refine ay_t_getI (pc := 46) fe_174_46 at_321 (by decide +kernel) rfl ?_
              refine ay_t_br (pc := 49) (pc' := 56) fe_174_49 rfl ?_
              cases h
              exact ay_t_iret fe_174_56 rfl rfl
          · rw [if_neg hc16] at h
            refine ay_t_neg (pc := 27) hc16 fe_174_27 rfl ?_
            refine ay_t_loc (pc := 30) fe_174_30 rfl ?_
            refine ay_t_getR (pc := 31) (w := .ref 322) fe_174_31 at_321 (by decide +kernel) rfl ?_
            refine ay_t_loc (pc := 34) fe_174_34 rfl ?_
            by_cases hb18 : a1 < 0 ∨ 405 ≤ a1.toNatClampNeg
            · rw [if_pos hb18] at h; cases h
            rw [if_neg hb18] at h
            refine ay_t_iaload (pc := 35) fe_174_35 at_322 (by decide) hb18 ?_
            refine ay_t_br (pc := 36) (pc' := 56) fe_174_36 rfl ?_
            cases h
            exact ay_t_iret fe_174_56 rfl rfl
        · rw [if_neg hc15] at h
          refine ay_t_neg (pc := 19) hc15 fe_174_19 rfl ?_
          refine ay_t_stk (pc := 22) (S' := [.int 0]) fe_174_22 rfl ?_
          cases h
          exact ay_t_iret fe_174_23 rfl rfl
def fn_175 (a1 : Int32) (D : am_DD) : Option (Int32 × am_DD) := (match fn_71 a1 D with | none => none | some (y1, D2) => some ((rw_at (D2 28) 60 y1), D2))
set_option maxHeartbeats 2000000 in
theorem ev_175 {a1 : Int32} {D : am_DD} {y : Int32} {Z : am_DD} (h : fn_175 a1 D = some (y, Z)) : ay_mo 175 [.ref 26, .int a1] D (.inl (some (.int y))) Z := by
  unfold fn_175 at h
  refine ay_m_of (L := [some (.ref 26), some (.int a1)]) rfl ?_
  refine ay_t_loc (pc := 0) fe_175_0 rfl ?_
  refine ay_t_getR (pc := 1) (w := .ref 27) fe_175_1 at_26 (by decide +kernel) rfl ?_
  refine ay_t_loc (pc := 4) fe_175_4 rfl ?_
  refine ay_t_loc (pc := 5) fe_175_5 rfl ?_
  cases hk3 : fn_71 a1 D with
  | none => rw [hk3] at h; cases h
  | some z =>
    obtain ⟨y1, D2⟩ := z
    rw [hk3] at h
    dsimp only at h
    refine ay_t_call (pc := 6) (w := some (.int y1)) fe_175_6 (ay_args [.ref 26, .int a1] [.ref 27] rfl rfl (Nat.le_of_ble_eq_true rfl) (Nat.le_of_ble_eq_true rfl)) (ay_rcvV at_26 rfl) (ev_71 hk3) ?_
    refine ay_t_call (pc := 9) (w := some (.int (rw_at (D2 28) 60 y1))) fe_175_9 (ay_args [.ref 27, .int y1] [] rfl rfl (Nat.le_of_ble_eq_true rfl) (Nat.le_of_ble_eq_true rfl)) (ay_rcvV at_27 rfl) (mt_at at_27 at_28 (by decide)) ?_
    cases h
    exact ay_t_iret fe_175_12 rfl rfl
def fn_176 (a1 : Int32) (D : am_DD) : Option (Int32 × am_DD) := (match fn_71 a1 D with | none => none | some (y1, D2) => some ((rw_at (D2 30) 60 y1), D2))
set_option maxHeartbeats 2000000 in
theorem ev_176 {a1 : Int32} {D : am_DD} {y : Int32} {Z : am_DD} (h : fn_176 a1 D = some (y, Z)) : ay_mo 176 [.ref 26, .int a1] D (.inl (some (.int y))) Z := by
  unfold fn_176 at h
  refine ay_m_of (L := [some (.ref 26), some (.int a1)]) rfl ?_
  refine ay_t_loc (pc := 0) fe_176_0 rfl ?_
  refine ay_t_getR (pc := 1) (w := .ref 29) fe_176_1 at_26 (by decide +kernel) rfl ?_
  refine ay_t_loc (pc := 4) fe_176_4 rfl ?_
  refine ay_t_loc (pc := 5) fe_176_5 rfl ?_
  cases hk3 : fn_71 a1 D with
  | none => rw [hk3] at h; cases h
  | some z =>
    obtain ⟨y1, D2⟩ := z
    rw [hk3] at h
    dsimp only at h
    refine ay_t_call (pc := 6) (w := some (.int y1)) fe_176_6 (ay_args [.ref 26, .int a1] [.ref 29] rfl rfl (Nat.le_of_ble_eq_true rfl) (Nat.le_of_ble_eq_true rfl)) (ay_rcvV at_26 rfl) (ev_71 hk3) ?_
    refine ay_t_call (pc := 9) (w := some (.int (rw_at (D2 30) 60 y1))) fe_176_9 (ay_args [.ref 29, .int y1] [] rfl rfl (Nat.le_of_ble_eq_true rfl) (Nat.le_of_ble_eq_true rfl)) (ay_rcvV at_29 rfl) (mt_at at_29 at_30 (by decide)) ?_
    cases h
    exact ay_t_iret fe_176_12 rfl rfl
def fn_177 (a1 : Int32) (D : am_DD) : Option (Int32 × am_DD) := (match fn_71 a1 D with | none => none | some (y1, D2) => some ((rw_at (D2 32) 60 y1), D2))
set_option maxHeartbeats 2000000 in
theorem ev_177 {a1 : Int32} {D : am_DD} {y : Int32} {Z : am_DD} (h : fn_177 a1 D = some (y, Z)) : ay_mo 177 [.ref 26, .int a1] D (.inl (some (.int y))) Z := by
  unfold fn_177 at h
  refine ay_m_of (L := [some (.ref 26), some (.int a1)]) rfl ?_
  refine ay_t_loc (pc := 0) fe_177_0 rfl ?_
  refine ay_t_getR (pc := 1) (w := .ref 31) fe_177_1 at_26 (by decide +kernel) rfl ?_
  refine ay_t_loc (pc := 4) fe_177_4 rfl ?_
  refine ay_t_loc (pc := 5) fe_177_5 rfl ?_
  cases hk3 : fn_71 a1 D with
  | none => rw [hk3] at h; cases h
  | some z =>
    obtain ⟨y1, D2⟩ := z
    rw [hk3] at h
    dsimp only at h
    refine ay_t_call (pc := 6) (w := some (.int y1)) fe_177_6 (ay_args [.ref 26, .int a1] [.ref 31] rfl rfl (Nat.le_of_ble_eq_true rfl) (Nat.le_of_ble_eq_true rfl)) (ay_rcvV at_26 rfl) (ev_71 hk3) ?_
    refine ay_t_call (pc := 9) (w := some (.int (rw_at (D2 32) 60 y1))) fe_177_9 (ay_args [.ref 31, .int y1] [] rfl rfl (Nat.le_of_ble_eq_true rfl) (Nat.le_of_ble_eq_true rfl)) (ay_rcvV at_31 rfl) (mt_at at_31 at_32 (by decide)) ?_
    cases h
    exact ay_t_iret fe_177_12 rfl rfl
