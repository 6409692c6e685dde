/-! methods as functions, with what am_run does (written by wip/whole/gen6.py) -/
def fn_224 (a1 : Int32) (D : am_DD) : Option (Int32 × am_DD) := (match fn_36 0 D with | none => none | some (y1, D2) => (if ¬ y1 = 0 then (match fn_211 D2 with | none => none | some (y5, D6) => fn_224_19 am_F a1 0 D6) else some ((-1), D2)))
set_option maxHeartbeats 2000000 in
theorem ev_224 {a1 : Int32} {D : am_DD} {y : Int32} {Z : am_DD} (h : fn_224 a1 D = some (y, Z)) : ay_mo 224 [.ref 33, .int a1] D (.inl (some (.int y))) Z := by
  unfold fn_224 at h
  refine ay_m_of (L := [some (.ref 33), some (.int a1), none]) rfl ?_
  refine ay_t_loc (pc := 0) fe_224_0 rfl ?_
  refine ay_t_getR (pc := 1) (w := .ref 8) fe_224_1 at_33 (by decide +kernel) rfl ?_
  refine ay_t_stk (pc := 4) (S' := [.int 0, .ref 8]) fe_224_4 rfl ?_
  cases hk3 : fn_36 0 D with
  | none => rw [hk3] at h; cases h
  | some z =>
    obtain ⟨y1, D2⟩ := z
    rw [hk3] at h
    dsimp only at h
    refine ay_t_call (pc := 5) (w := some (.int y1)) fe_224_5 (ay_args [.ref 8, .int 0] [] rfl rfl (Nat.le_of_ble_eq_true rfl) (Nat.le_of_ble_eq_true rfl)) (ay_rcvV at_8 rfl) (ev_36 hk3) ?_
    by_cases hc4 : ¬ y1 = 0
    · rw [if_pos hc4] at h
      refine ay_t_pos (pc := 8) hc4 fe_224_8 rfl ?_
      refine ay_t_loc (pc := 13) fe_224_13 rfl ?_
      cases hk7 : fn_211 D2 with
      | none => rw [hk7] at h; cases h
      | some z =>
        obtain ⟨y5, D6⟩ := z
        rw [hk7] at h
        dsimp only at h
        refine ay_t_call (pc := 14) (w := none) fe_224_14 (ay_args [.ref 33] [] rfl rfl (Nat.le_of_ble_eq_true rfl) (Nat.le_of_ble_eq_true rfl)) (ay_rcvV at_33 rfl) (ev_211 hk7) ?_
        refine ay_t_stk (pc := 17) (S' := [.int 0]) fe_224_17 rfl ?_
        refine ay_t_loc (pc := 18) (L' := [some (.ref 33), some (.int a1), some (.int 0)]) fe_224_18 rfl ?_
        exact ay_t_less (ay_ls (ay_ls (ay_ls ay_l0))) (ev_224_19 _ _ _ _ _ _ h)
    · rw [if_neg hc4] at h
      refine ay_t_neg (pc := 8) hc4 fe_224_8 rfl ?_
      refine ay_t_stk (pc := 11) (S' := [.int (-1)]) fe_224_11 rfl ?_
      cases h
      exact ay_t_iret fe_224_12 rfl rfl
def fn_225 (a1 : Int32) (D : am_DD) : Option (Int32 × Nat × am_DD) := (if a1 < 0 then some (0, 1, D) else (if a1 < 1000 then (match fn_224 a1 D with | none => none | some (y3, D4) => some (y3, 0, D4)) else some (0, 1, D)))
set_option maxHeartbeats 2000000 in
theorem ev_225 {a1 : Int32} {D : am_DD} {y : Int32} {k : Nat} {Z : am_DD} (h : fn_225 a1 D = some (y, k, Z)) : ay_mo 225 [.ref 0, .int a1] D (ay_oc y k) Z := by
  unfold fn_225 at h
  refine ay_m_of (L := [some (.ref 0), some (.int a1)]) rfl ?_
  refine ay_t_loc (pc := 0) fe_225_0 rfl ?_
  by_cases hc1 : a1 < 0
  · rw [if_pos hc1] at h
    refine ay_t_pos (pc := 1) hc1 fe_225_1 rfl ?_
    cases h
    exact ay_t_thr fe_225_11 (by decide)
  · rw [if_neg hc1] at h
    refine ay_t_neg (pc := 1) hc1 fe_225_1 rfl ?_
    refine ay_t_loc (pc := 4) fe_225_4 rfl ?_
    refine ay_t_stk (pc := 5) (S' := [.int 1000, .int a1]) fe_225_5 rfl ?_
    by_cases hc2 : a1 < 1000
    · rw [if_pos hc2] at h
      refine ay_t_pos (pc := 8) hc2 fe_225_8 rfl ?_
      refine ay_t_loc (pc := 22) fe_225_22 rfl ?_
      refine ay_t_getR (pc := 23) (w := .ref 33) fe_225_23 at_0 (by decide +kernel) rfl ?_
      refine ay_t_loc (pc := 26) fe_225_26 rfl ?_
      cases hk5 : fn_224 a1 D with
      | none => rw [hk5] at h; cases h
      | some z =>
        obtain ⟨y3, D4⟩ := z
        rw [hk5] at h
        dsimp only at h
        refine ay_t_call (pc := 27) (w := some (.int y3)) fe_225_27 (ay_args [.ref 33, .int a1] [] rfl rfl (Nat.le_of_ble_eq_true rfl) (Nat.le_of_ble_eq_true rfl)) (ay_rcvV at_33 rfl) (ev_224 hk5) ?_
        cases h
        exact ay_t_iret fe_225_30 rfl rfl
    · rw [if_neg hc2] at h
      refine ay_t_neg (pc := 8) hc2 fe_225_8 rfl ?_
      cases h
      exact ay_t_thr fe_225_11 (by decide)
def fn_227_27 : Nat → Int32 → Int32 → am_DD → Option (Int32 × am_DD)
  | 0, _, _, _ => none
  | n + 1, x1, x2, D => (if 5 ≤ x2 then some ((-1), D) else (match fn_218 x1 D with | none => none | some (y14, D15) => (if (20 + x2) < 0 ∨ 25 ≤ (20 + x2).toNatClampNeg then none else (match fn_218 (x1 + 1) D15 with | none => none | some (y18, D19) => (if (20 + x2) < 0 ∨ 25 ≤ (20 + x2).toNatClampNeg then none else (if (D19 327 (20 + x2).toNatClampNeg) ≤ (D15 327 (20 + x2).toNatClampNeg) then fn_227_27 n x1 (x2 + 1) D19 else some (x2, D19)))))))
set_option maxHeartbeats 2000000 in
theorem ev_227_27 : ∀ (n : Nat) (x1 x2 : Int32) (D : am_DD) (y : Int32) (Z : am_DD), fn_227_27 n x1 x2 D = some (y, Z) → ay_to 227 27 [some (.ref 321), some (.int x1), some (.int x2), none] [] D (.inl (some (.int y))) Z := by
  intro n
  induction n with
  | zero => intro x1 x2 D y Z h; cases h
  | succ n ih =>
    intro x1 x2 D y Z h
    rw [fn_227_27] at h
    refine ay_t_loc (pc := 27) fe_227_27 rfl ?_
    refine ay_t_stk (pc := 28) (S' := [.int 5, .int x2]) fe_227_28 rfl ?_
    by_cases hc13 : 5 ≤ x2
    · rw [if_pos hc13] at h
      refine ay_t_pos (pc := 29) hc13 fe_227_29 rfl ?_
      refine ay_t_stk (pc := 75) (S' := [.int (-1)]) fe_227_75 rfl ?_
      cases h
      exact ay_t_iret fe_227_76 rfl rfl
    · rw [if_neg hc13] at h
      refine ay_t_neg (pc := 29) hc13 fe_227_29 rfl ?_
      refine ay_t_loc (pc := 32) fe_227_32 rfl ?_
      refine ay_t_loc (pc := 33) fe_227_33 rfl ?_
      cases hk16 : fn_218 x1 D with
      | none => rw [hk16] at h; cases h
      | some z =>
        obtain ⟨y14, D15⟩ := z
        rw [hk16] at h
        dsimp only at h
        refine ay_t_call (pc := 34) (w := none) fe_227_34 (ay_args [.ref 321, .int x1] [] rfl rfl (Nat.le_of_ble_eq_true rfl) (Nat.le_of_ble_eq_true rfl)) (ay_rcvV at_321 rfl) (ev_218 hk16) ?_
        refine ay_t_loc (pc := 37) fe_227_37 rfl ?_
        refine ay_t_getR (pc := 38) (w := .ref 327) fe_227_38 at_321 (by decide +kernel) rfl ?_
        refine ay_t_stk (pc := 41) (S' := [.int 20, .ref 327]) fe_227_41 rfl ?_
        refine ay_t_loc (pc := 43) fe_227_43 rfl ?_
        refine ay_t_stk (pc := 44) (S' := [.int (20 + x2), .ref 327]) fe_227_44 rfl ?_
        by_cases hb17 : (20 + x2) < 0 ∨ 25 ≤ (20 + x2).toNatClampNeg
        · rw [if_pos hb17] at h; cases h
        rw [if_neg hb17] at h
        refine ay_t_iaload (pc := 45) fe_227_45 at_327 (by decide) hb17 ?_
        refine ay_t_loc (pc := 46) (L' := [some (.ref 321), some (.int x1), some (.int x2), some (.int (D15 327 (20 + x2).toNatClampNeg))]) fe_227_46 rfl ?_
        refine ay_t_loc (pc := 47) fe_227_47 rfl ?_
        refine ay_t_loc (pc := 48) fe_227_48 rfl ?_
        refine ay_t_stk (pc := 49) (S' := [.int 1, .int x1, .ref 321]) fe_227_49 rfl ?_
        refine ay_t_stk (pc := 50) (S' := [.int (x1 + 1), .ref 321]) fe_227_50 rfl ?_
        cases hk20 : fn_218 (x1 + 1) D15 with
        | none => rw [hk20] at h; cases h
        | some z =>
          obtain ⟨y18, D19⟩ := z
          rw [hk20] at h
          dsimp only at h
          refine ay_t_call (pc := 51) (w := none) fe_227_51 (ay_args [.ref 321, .int (x1 + 1)] [] rfl rfl (Nat.le_of_ble_eq_true rfl) (Nat.le_of_ble_eq_true rfl)) (ay_rcvV at_321 rfl) (ev_218 hk20) ?_
          refine ay_t_loc (pc := 54) fe_227_54 rfl ?_
          refine ay_t_getR (pc := 55) (w := .ref 327) fe_227_55 at_321 (by decide +kernel) rfl ?_
          refine ay_t_stk (pc := 58) (S' := [.int 20, .ref 327]) fe_227_58 rfl ?_
          refine ay_t_loc (pc := 60) fe_227_60 rfl ?_
          refine ay_t_stk (pc := 61) (S' := [.int (20 + x2), .ref 327]) fe_227_61 rfl ?_
          by_cases hb21 : (20 + x2) < 0 ∨ 25 ≤ (20 + x2).toNatClampNeg
          · rw [if_pos hb21] at h; cases h
          rw [if_neg hb21] at h
          refine ay_t_iaload (pc := 62) fe_227_62 at_327 (by decide) hb21 ?_
          refine ay_t_loc (pc := 63) fe_227_63 rfl ?_
          by_cases hc22 : (D19 327 (20 + x2).toNatClampNeg) ≤ (D15 327 (20 + x2).toNatClampNeg)
          · rw [if_pos hc22] at h
            refine ay_t_pos (pc := 64) hc22 fe_227_64 rfl ?_
            refine ay_t_loc (pc := 69) (L' := [some (.ref 321), some (.int x1), some (.int (x2 + 1)), some (.int (D15 327 (20 + x2).toNatClampNeg))]) fe_227_69 rfl ?_
            refine ay_t_br (pc := 72) (pc' := 27) fe_227_72 rfl ?_
            exact ay_t_less (ay_ls (ay_ls (ay_ls (ay_ln ay_l0)))) (ih _ _ _ _ _ h)
          · rw [if_neg hc22] at h
            refine ay_t_neg (pc := 64) hc22 fe_227_64 rfl ?_
            refine ay_t_loc (pc := 67) fe_227_67 rfl ?_
            cases h
            exact ay_t_iret fe_227_68 rfl rfl
def fn_227 (a1 : Int32) (D : am_DD) : Option (Int32 × am_DD) := (match fn_26 a1 0 999 D with | none => none | some (y1, D2) => (if y1 = 0 then (match fn_29 1 D2 with | none => none | some (y5, D6) => (if ¬ y5 = 0 then fn_227_27 am_F a1 0 D6 else some (0, D6))) else (match fn_29 0 D2 with | none => none | some (y9, D10) => (if ¬ y9 = 0 then fn_227_27 am_F a1 0 D10 else some (0, D10)))))
set_option maxHeartbeats 2000000 in
theorem ev_227 {a1 : Int32} {D : am_DD} {y : Int32} {Z : am_DD} (h : fn_227 a1 D = some (y, Z)) : ay_mo 227 [.ref 321, .int a1] D (.inl (some (.int y))) Z := by
  unfold fn_227 at h
  refine ay_m_of (L := [some (.ref 321), some (.int a1), none, none]) rfl ?_
  refine ay_t_loc (pc := 0) fe_227_0 rfl ?_
  refine ay_t_loc (pc := 1) fe_227_1 rfl ?_
  refine ay_t_stk (pc := 2) (S' := [.int 0, .int a1, .ref 321]) fe_227_2 rfl ?_
  refine ay_t_stk (pc := 3) (S' := [.int 999, .int 0, .int a1, .ref 321]) fe_227_3 rfl ?_
  cases hk3 : fn_26 a1 0 999 D with
  | none => rw [hk3] at h; cases h
  | some z =>
    obtain ⟨y1, D2⟩ := z
    rw [hk3] at h
    dsimp only at h
    refine ay_t_call (pc := 6) (w := some (.int y1)) fe_227_6 (ay_args [.int a1, .int 0, .int 999] [.ref 321] rfl rfl (Nat.le_of_ble_eq_true rfl) (Nat.le_of_ble_eq_true rfl)) rfl (ev_26 hk3) ?_
    by_cases hc4 : y1 = 0
    · rw [if_pos hc4] at h
      refine ay_t_pos (pc := 9) hc4 fe_227_9 rfl ?_
      refine ay_t_stk (pc := 16) (S' := [.int 1, .ref 321]) fe_227_16 rfl ?_
      cases hk7 : fn_29 1 D2 with
      | none => rw [hk7] at h; cases h
      | some z =>
        obtain ⟨y5, D6⟩ := z
        rw [hk7] at h
        dsimp only at h
        refine ay_t_call (pc := 17) (w := some (.int y5)) fe_227_17 (ay_args [.ref 321, .int 1] [] rfl rfl (Nat.le_of_ble_eq_true rfl) (Nat.le_of_ble_eq_true rfl)) (ay_rcvV at_321 rfl) (ev_29 hk7) ?_
        by_cases hc8 : ¬ y5 = 0
        · rw [if_pos hc8] at h
          refine ay_t_pos (pc := 20) hc8 fe_227_20 rfl ?_
          refine ay_t_stk (pc := 25) (S' := [.int 0]) fe_227_25 rfl ?_
          refine ay_t_loc (pc := 26) (L' := [some (.ref 321), some (.int a1), some (.int 0), none]) fe_227_26 rfl ?_
          exact ay_t_less (ay_ls (ay_ls (ay_ls (ay_ls ay_l0)))) (ev_227_27 _ _ _ _ _ _ h)
        · rw [if_neg hc8] at h
          refine ay_t_neg (pc := 20) hc8 fe_227_20 rfl ?_
          refine ay_t_stk (pc := 23) (S' := [.int 0]) fe_227_23 rfl ?_
          cases h
          exact ay_t_iret fe_227_24 rfl rfl
    · rw [if_neg hc4] at h
      refine ay_t_neg (pc := 9) hc4 fe_227_9 rfl ?_
      refine ay_t_stk (pc := 12) (S' := [.int 0, .ref 321]) fe_227_12 rfl ?_
      refine ay_t_br (pc := 13) (pc' := 17) fe_227_13 rfl ?_
      cases hk11 : fn_29 0 D2 with
      | none => rw [hk11] at h; cases h
      | some z =>
        obtain ⟨y9, D10⟩ := z
        rw [hk11] at h
        dsimp only at h
        refine ay_t_call (pc := 17) (w := some (.int y9)) fe_227_17 (ay_args [.ref 321, .int 0] [] rfl rfl (Nat.le_of_ble_eq_true rfl) (Nat.le_of_ble_eq_true rfl)) (ay_rcvV at_321 rfl) (ev_29 hk11) ?_
        by_cases hc12 : ¬ y9 = 0
        · rw [if_pos hc12] at h
          refine ay_t_pos (pc := 20) hc12 fe_227_20 rfl ?_
          refine ay_t_stk (pc := 25) (S' := [.int 0]) fe_227_25 rfl ?_
          refine ay_t_loc (pc := 26) (L' := [some (.ref 321), some (.int a1), some (.int 0), none]) fe_227_26 rfl ?_
          exact ay_t_less (ay_ls (ay_ls (ay_ls (ay_ls ay_l0)))) (ev_227_27 _ _ _ _ _ _ h)
        · rw [if_neg hc12] at h
          refine ay_t_neg (pc := 20) hc12 fe_227_20 rfl ?_
          refine ay_t_stk (pc := 23) (S' := [.int 0]) fe_227_23 rfl ?_
          cases h
          exact ay_t_iret fe_227_24 rfl rfl
def fn_228_19 : Nat → Int32 → Int32 → am_DD → Option (Int32 × am_DD)
  | 0, _, _, _ => none
  | n + 1, x1, x2, D => (if 4096 ≤ x2 then some ((-1), D) else (match fn_212 D with | none => none | some (y9, D10) => (if ¬ y9 = x1 then fn_228_19 n x1 (x2 + 1) D10 else some (x2, D10))))
set_option maxHeartbeats 2000000 in
theorem ev_228_19 : ∀ (n : Nat) (x1 x2 : Int32) (D : am_DD) (y : Int32) (Z : am_DD), fn_228_19 n x1 x2 D = some (y, Z) → ay_to 228 19 [some (.ref 33), some (.int x1), some (.int x2)] [] D (.inl (some (.int y))) Z := by
  intro n
  induction n with
  | zero => intro x1 x2 D y Z h; cases h
  | succ n ih =>
    intro x1 x2 D y Z h
    rw [fn_228_19] at h
    refine ay_t_loc (pc := 19) fe_228_19 rfl ?_
    refine ay_t_stk (pc := 20) (S' := [.int 4096, .int x2]) fe_228_20 rfl ?_
    by_cases hc8 : 4096 ≤ x2
    · rw [if_pos hc8] at h
      refine ay_t_pos (pc := 23) hc8 fe_228_23 rfl ?_
      refine ay_t_stk (pc := 42) (S' := [.int (-1)]) fe_228_42 rfl ?_
      cases h
      exact ay_t_iret fe_228_43 rfl rfl
    · rw [if_neg hc8] at h
      refine ay_t_neg (pc := 23) hc8 fe_228_23 rfl ?_
      refine ay_t_loc (pc := 26) fe_228_26 rfl ?_
      cases hk11 : fn_212 D with
      | none => rw [hk11] at h; cases h
      | some z =>
        obtain ⟨y9, D10⟩ := z
        rw [hk11] at h
        dsimp only at h
        refine ay_t_call (pc := 27) (w := some (.int y9)) fe_228_27 (ay_args [.ref 33] [] rfl rfl (Nat.le_of_ble_eq_true rfl) (Nat.le_of_ble_eq_true rfl)) (ay_rcvV at_33 rfl) (ev_212 hk11) ?_
        refine ay_t_loc (pc := 30) fe_228_30 rfl ?_
        by_cases hc12 : ¬ y9 = x1
        · rw [if_pos hc12] at h
          refine ay_t_pos (pc := 31) hc12 fe_228_31 rfl ?_
          refine ay_t_loc (pc := 36) (L' := [some (.ref 33), some (.int x1), some (.int (x2 + 1))]) fe_228_36 rfl ?_
          refine ay_t_br (pc := 39) (pc' := 19) fe_228_39 rfl ?_
          exact ay_t_less (ay_ls (ay_ls (ay_ls ay_l0))) (ih _ _ _ _ _ h)
        · rw [if_neg hc12] at h
          refine ay_t_neg (pc := 31) hc12 fe_228_31 rfl ?_
          refine ay_t_loc (pc := 34) fe_228_34 rfl ?_
          cases h
          exact ay_t_iret fe_228_35 rfl rfl
def fn_228 (a1 : Int32) (D : am_DD) : Option (Int32 × am_DD) := (match fn_36 0 D with | none => none | some (y1, D2) => (if ¬ y1 = 0 then (match fn_211 D2 with | none => none | some (y5, D6) => fn_228_19 am_F a1 0 D6) else some ((-1), D2)))
set_option maxHeartbeats 2000000 in
theorem ev_228 {a1 : Int32} {D : am_DD} {y : Int32} {Z : am_DD} (h : fn_228 a1 D = some (y, Z)) : ay_mo 228 [.ref 33, .int a1] D (.inl (some (.int y))) Z := by
  unfold fn_228 at h
  refine ay_m_of (L := [some (.ref 33), some (.int a1), none]) rfl ?_
  refine ay_t_loc (pc := 0) fe_228_0 rfl ?_
  refine ay_t_getR (pc := 1) (w := .ref 8) fe_228_1 at_33 (by decide +kernel) rfl ?_
  refine ay_t_stk (pc := 4) (S' := [.int 0, .ref 8]) fe_228_4 rfl ?_
  cases hk3 : fn_36 0 D with
  | none => rw [hk3] at h; cases h
  | some z =>
    obtain ⟨y1, D2⟩ := z
    rw [hk3] at h
    dsimp only at h
    refine ay_t_call (pc := 5) (w := some (.int y1)) fe_228_5 (ay_args [.ref 8, .int 0] [] rfl rfl (Nat.le_of_ble_eq_true rfl) (Nat.le_of_ble_eq_true rfl)) (ay_rcvV at_8 rfl) (ev_36 hk3) ?_
    by_cases hc4 : ¬ y1 = 0
    · rw [if_pos hc4] at h
      refine ay_t_pos (pc := 8) hc4 fe_228_8 rfl ?_
      refine ay_t_loc (pc := 13) fe_228_13 rfl ?_
      cases hk7 : fn_211 D2 with
      | none => rw [hk7] at h; cases h
      | some z =>
        obtain ⟨y5, D6⟩ := z
        rw [hk7] at h
        dsimp only at h
        refine ay_t_call (pc := 14) (w := none) fe_228_14 (ay_args [.ref 33] [] rfl rfl (Nat.le_of_ble_eq_true rfl) (Nat.le_of_ble_eq_true rfl)) (ay_rcvV at_33 rfl) (ev_211 hk7) ?_
        refine ay_t_stk (pc := 17) (S' := [.int 0]) fe_228_17 rfl ?_
        refine ay_t_loc (pc := 18) (L' := [some (.ref 33), some (.int a1), some (.int 0)]) fe_228_18 rfl ?_
        exact ay_t_less (ay_ls (ay_ls (ay_ls ay_l0))) (ev_228_19 _ _ _ _ _ _ h)
    · rw [if_neg hc4] at h
      refine ay_t_neg (pc := 8) hc4 fe_228_8 rfl ?_
      refine ay_t_stk (pc := 11) (S' := [.int (-1)]) fe_228_11 rfl ?_
      cases h
      exact ay_t_iret fe_228_12 rfl rfl
def fn_229 (a1 : Int32) (D : am_DD) : Option (Int32 × Nat × am_DD) := (match fn_91 a1 D with | none => none | some (y1, D2) => (if ¬ y1 = 0 then (match fn_228 a1 D2 with | none => none | some (y5, D6) => some (y5, 0, D6)) else some (0, 3, D2)))
set_option maxHeartbeats 2000000 in
theorem ev_229 {a1 : Int32} {D : am_DD} {y : Int32} {k : Nat} {Z : am_DD} (h : fn_229 a1 D = some (y, k, Z)) : ay_mo 229 [.ref 0, .int a1] D (ay_oc y k) Z := by
  unfold fn_229 at h
  refine ay_m_of (L := [some (.ref 0), some (.int a1)]) rfl ?_
  refine ay_t_loc (pc := 0) fe_229_0 rfl ?_
  cases hk3 : fn_91 a1 D with
  | none => rw [hk3] at h; cases h
  | some z =>
    obtain ⟨y1, D2⟩ := z
    rw [hk3] at h
    dsimp only at h
    refine ay_t_call (pc := 1) (w := some (.int y1)) fe_229_1 (ay_args [.int a1] [] rfl rfl (Nat.le_of_ble_eq_true rfl) (Nat.le_of_ble_eq_true rfl)) rfl (ev_91 hk3) ?_
    by_cases hc4 : ¬ y1 = 0
    · rw [if_pos hc4] at h
      refine ay_t_pos (pc := 4) hc4 fe_229_4 rfl ?_
      refine ay_t_loc (pc := 17) fe_229_17 rfl ?_
      refine ay_t_getR (pc := 18) (w := .ref 33) fe_229_18 at_0 (by decide +kernel) rfl ?_
      refine ay_t_loc (pc := 21) fe_229_21 rfl ?_
      cases hk7 : fn_228 a1 D2 with
      | none => rw [hk7] at h; cases h
      | some z =>
        obtain ⟨y5, D6⟩ := z
        rw [hk7] at h
        dsimp only at h
        refine ay_t_call (pc := 22) (w := some (.int y5)) fe_229_22 (ay_args [.ref 33, .int a1] [] rfl rfl (Nat.le_of_ble_eq_true rfl) (Nat.le_of_ble_eq_true rfl)) (ay_rcvV at_33 rfl) (ev_228 hk7) ?_
        cases h
        exact ay_t_iret fe_229_25 rfl rfl
    · rw [if_neg hc4] at h
      refine ay_t_neg (pc := 4) hc4 fe_229_4 rfl ?_
      cases h
      exact ay_t_thr fe_229_7 (by decide)
def fn_231_23 : Nat → Int32 → Int32 → am_DD → Option (Int32 × am_DD)
  | 0, _, _, _ => none
  | n + 1, x1, x2, D => (if 4096 ≤ x2 then some ((-1), D) else (match fn_218 (x2 + 1) D with | none => none | some (y14, D15) => (if (20 + x1) < 0 ∨ 25 ≤ (20 + x1).toNatClampNeg then none else (if (D15 327 (20 + x1).toNatClampNeg) ≤ 0 then fn_231_23 n x1 (x2 + 1) D15 else some (x2, D15)))))
set_option maxHeartbeats 2000000 in
theorem ev_231_23 : ∀ (n : Nat) (x1 x2 : Int32) (D : am_DD) (y : Int32) (Z : am_DD), fn_231_23 n x1 x2 D = some (y, Z) → ay_to 231 23 [some (.ref 321), some (.int x1), some (.int x2)] [] D (.inl (some (.int y))) Z := by
  intro n
  induction n with
  | zero => intro x1 x2 D y Z h; cases h
  | succ n ih =>
    intro x1 x2 D y Z h
    rw [fn_231_23] at h
    refine ay_t_loc (pc := 23) fe_231_23 rfl ?_
    refine ay_t_stk (pc := 24) (S' := [.int 4096, .int x2]) fe_231_24 rfl ?_
    by_cases hc13 : 4096 ≤ x2
    · rw [if_pos hc13] at h
      refine ay_t_pos (pc := 27) hc13 fe_231_27 rfl ?_
      refine ay_t_stk (pc := 57) (S' := [.int (-1)]) fe_231_57 rfl ?_
      cases h
      exact ay_t_iret fe_231_58 rfl rfl
    · rw [if_neg hc13] at h
      refine ay_t_neg (pc := 27) hc13 fe_231_27 rfl ?_
      refine ay_t_loc (pc := 30) fe_231_30 rfl ?_
      refine ay_t_loc (pc := 31) fe_231_31 rfl ?_
      refine ay_t_stk (pc := 32) (S' := [.int 1, .int x2, .ref 321]) fe_231_32 rfl ?_
      refine ay_t_stk (pc := 33) (S' := [.int (x2 + 1), .ref 321]) fe_231_33 rfl ?_
      cases hk16 : fn_218 (x2 + 1) D with
      | none => rw [hk16] at h; cases h
      | some z =>
        obtain ⟨y14, D15⟩ := z
        rw [hk16] at h
        dsimp only at h
        refine ay_t_call (pc := 34) (w := none) fe_231_34 (ay_args [.ref 321, .int (x2 + 1)] [] rfl rfl (Nat.le_of_ble_eq_true rfl) (Nat.le_of_ble_eq_true rfl)) (ay_rcvV at_321 rfl) (ev_218 hk16) ?_
        refine ay_t_loc (pc := 37) fe_231_37 rfl ?_
        refine ay_t_getR (pc := 38) (w := .ref 327) fe_231_38 at_321 (by decide +kernel) rfl ?_
        refine ay_t_stk (pc := 41) (S' := [.int 20, .ref 327]) fe_231_41 rfl ?_
        refine ay_t_loc (pc := 43) fe_231_43 rfl ?_
        refine ay_t_stk (pc := 44) (S' := [.int (20 + x1), .ref 327]) fe_231_44 rfl ?_
        by_cases hb17 : (20 + x1) < 0 ∨ 25 ≤ (20 + x1).toNatClampNeg
        · rw [if_pos hb17] at h; cases h
        rw [if_neg hb17] at h
        refine ay_t_iaload (pc := 45) fe_231_45 at_327 (by decide) hb17 ?_
        by_cases hc18 : (D15 327 (20 + x1).toNatClampNeg) ≤ 0
        · rw [if_pos hc18] at h
          refine ay_t_pos (pc := 46) hc18 fe_231_46 rfl ?_
          refine ay_t_loc (pc := 51) (L' := [some (.ref 321), some (.int x1), some (.int (x2 + 1))]) fe_231_51 rfl ?_
          refine ay_t_br (pc := 54) (pc' := 23) fe_231_54 rfl ?_
          exact ay_t_less (ay_ls (ay_ls (ay_ls ay_l0))) (ih _ _ _ _ _ h)
        · rw [if_neg hc18] at h
          refine ay_t_neg (pc := 46) hc18 fe_231_46 rfl ?_
          refine ay_t_loc (pc := 49) fe_231_49 rfl ?_
          cases h
          exact ay_t_iret fe_231_50 rfl rfl
def fn_231 (a1 : Int32) (D : am_DD) : Option (Int32 × am_DD) := (match fn_45 a1 D with | none => none | some (y1, D2) => (if y1 = 0 then (match fn_29 1 D2 with | none => none | some (y5, D6) => (if ¬ y5 = 0 then fn_231_23 am_F a1 0 D6 else some (0, D6))) else (match fn_29 0 D2 with | none => none | some (y9, D10) => (if ¬ y9 = 0 then fn_231_23 am_F a1 0 D10 else some (0, D10)))))
set_option maxHeartbeats 2000000 in
theorem ev_231 {a1 : Int32} {D : am_DD} {y : Int32} {Z : am_DD} (h : fn_231 a1 D = some (y, Z)) : ay_mo 231 [.ref 321, .int a1] D (.inl (some (.int y))) Z := by
  unfold fn_231 at h
  refine ay_m_of (L := [some (.ref 321), some (.int a1), none]) rfl ?_
  refine ay_t_loc (pc := 0) fe_231_0 rfl ?_
  refine ay_t_loc (pc := 1) fe_231_1 rfl ?_
  cases hk3 : fn_45 a1 D with
  | none => rw [hk3] at h; cases h
  | some z =>
    obtain ⟨y1, D2⟩ := z
    rw [hk3] at h
    dsimp only at h
    refine ay_t_call (pc := 2) (w := some (.int y1)) fe_231_2 (ay_args [.int a1] [.ref 321] rfl rfl (Nat.le_of_ble_eq_true rfl) (Nat.le_of_ble_eq_true rfl)) rfl (ev_45 hk3) ?_
    by_cases hc4 : y1 = 0
    · rw [if_pos hc4] at h
      refine ay_t_pos (pc := 5) hc4 fe_231_5 rfl ?_
      refine ay_t_stk (pc := 12) (S' := [.int 1, .ref 321]) fe_231_12 rfl ?_
      cases hk7 : fn_29 1 D2 with
      | none => rw [hk7] at h; cases h
      | some z =>
        obtain ⟨y5, D6⟩ := z
        rw [hk7] at h
        dsimp only at h
        refine ay_t_call (pc := 13) (w := some (.int y5)) fe_231_13 (ay_args [.ref 321, .int 1] [] rfl rfl (Nat.le_of_ble_eq_true rfl) (Nat.le_of_ble_eq_true rfl)) (ay_rcvV at_321 rfl) (ev_29 hk7) ?_
        by_cases hc8 : ¬ y5 = 0
        · rw [if_pos hc8] at h
          refine ay_t_pos (pc := 16) hc8 fe_231_16 rfl ?_
          refine ay_t_stk (pc := 21) (S' := [.int 0]) fe_231_21 rfl ?_
          refine ay_t_loc (pc := 22) (L' := [some (.ref 321), some (.int a1), some (.int 0)]) fe_231_22 rfl ?_
          exact ay_t_less (ay_ls (ay_ls (ay_ls ay_l0))) (ev_231_23 _ _ _ _ _ _ h)
        · rw [if_neg hc8] at h
          refine ay_t_neg (pc := 16) hc8 fe_231_16 rfl ?_
          refine ay_t_stk (pc := 19) (S' := [.int 0]) fe_231_19 rfl ?_
          cases h
          exact ay_t_iret fe_231_20 rfl rfl
    · rw [if_neg hc4] at h
      refine ay_t_neg (pc := 5) hc4 fe_231_5 rfl ?_
      refine ay_t_stk (pc := 8) (S' := [.int 0, .ref 321]) fe_231_8 rfl ?_
      refine ay_t_br (pc := 9) (pc' := 13) fe_231_9 rfl ?_
      cases hk11 : fn_29 0 D2 with
      | none => rw [hk11] at h; cases h
      | some z =>
        obtain ⟨y9, D10⟩ := z
        rw [hk11] at h
        dsimp only at h
        refine ay_t_call (pc := 13) (w := some (.int y9)) fe_231_13 (ay_args [.ref 321, .int 0] [] rfl rfl (Nat.le_of_ble_eq_true rfl) (Nat.le_of_ble_eq_true rfl)) (ay_rcvV at_321 rfl) (ev_29 hk11) ?_
        by_cases hc12 : ¬ y9 = 0
        · rw [if_pos hc12] at h
          refine ay_t_pos (pc := 16) hc12 fe_231_16 rfl ?_
          refine ay_t_stk (pc := 21) (S' := [.int 0]) fe_231_21 rfl ?_
          refine ay_t_loc (pc := 22) (L' := [some (.ref 321), some (.int a1), some (.int 0)]) fe_231_22 rfl ?_
          exact ay_t_less (ay_ls (ay_ls (ay_ls ay_l0))) (ev_231_23 _ _ _ _ _ _ h)
        · rw [if_neg hc12] at h
          refine ay_t_neg (pc := 16) hc12 fe_231_16 rfl ?_
          refine ay_t_stk (pc := 19) (S' := [.int 0]) fe_231_19 rfl ?_
          cases h
          exact ay_t_iret fe_231_20 rfl rfl
def fn_233_19 : Nat → Int32 → am_DD → Option (Int32 × am_DD)
  | 0, _, _ => none
  | n + 1, x1, D => (if 4096 ≤ x1 then some (4096, D) else (match fn_212 D with | none => none | some (y9, D10) => (if (rw_same (D10 35) (D10 10) 12) = 0 then fn_233_19 n (x1 + 1) D10 else some (x1, D10))))
set_option maxHeartbeats 2000000 in
theorem ev_233_19 : ∀ (n : Nat) (x1 : Int32) (D : am_DD) (y : Int32) (Z : am_DD), fn_233_19 n x1 D = some (y, Z) → ay_to 233 19 [some (.ref 33), some (.int x1)] [] D (.inl (some (.int y))) Z := by
  intro n
  induction n with
  | zero => intro x1 D y Z h; cases h
  | succ n ih =>
    intro x1 D y Z h
    rw [fn_233_19] at h
    refine ay_t_loc (pc := 19) fe_233_19 rfl ?_
    refine ay_t_stk (pc := 20) (S' := [.int 4096, .int x1]) fe_233_20 rfl ?_
    by_cases hc8 : 4096 ≤ x1
    · rw [if_pos hc8] at h
      refine ay_t_pos (pc := 23) hc8 fe_233_23 rfl ?_
      refine ay_t_stk (pc := 56) (S' := [.int 4096]) fe_233_56 rfl ?_
      cases h
      exact ay_t_iret fe_233_59 rfl rfl
    · rw [if_neg hc8] at h
      refine ay_t_neg (pc := 23) hc8 fe_233_23 rfl ?_
      refine ay_t_loc (pc := 26) fe_233_26 rfl ?_
      cases hk11 : fn_212 D with
      | none => rw [hk11] at h; cases h
      | some z =>
        obtain ⟨y9, D10⟩ := z
        rw [hk11] at h
        dsimp only at h
        refine ay_t_call (pc := 27) (w := some (.int y9)) fe_233_27 (ay_args [.ref 33] [] rfl rfl (Nat.le_of_ble_eq_true rfl) (Nat.le_of_ble_eq_true rfl)) (ay_rcvV at_33 rfl) (ev_212 hk11) ?_
        refine ay_t_stk (pc := 30) (S' := []) fe_233_30 rfl ?_
        refine ay_t_loc (pc := 31) fe_233_31 rfl ?_
        refine ay_t_getR (pc := 32) (w := .ref 34) fe_233_32 at_33 (by decide +kernel) rfl ?_
        refine ay_t_loc (pc := 35) fe_233_35 rfl ?_
        refine ay_t_getR (pc := 36) (w := .ref 8) fe_233_36 at_33 (by decide +kernel) rfl ?_
        refine ay_t_getR (pc := 39) (w := .ref 9) fe_233_39 at_8 (by decide +kernel) rfl ?_
        refine ay_t_call (pc := 42) (w := some (.int (rw_same (D10 35) (D10 10) 12))) fe_233_42 (ay_args [.ref 34, .ref 9] [] rfl rfl (Nat.le_of_ble_eq_true rfl) (Nat.le_of_ble_eq_true rfl)) (ay_rcvV at_34 rfl) (mt_same at_34 at_35 at_9 at_10 (by decide)) ?_
        by_cases hc12 : (rw_same (D10 35) (D10 10) 12) = 0
        · rw [if_pos hc12] at h
          refine ay_t_pos (pc := 45) hc12 fe_233_45 rfl ?_
          refine ay_t_loc (pc := 50) (L' := [some (.ref 33), some (.int (x1 + 1))]) fe_233_50 rfl ?_
          refine ay_t_br (pc := 53) (pc' := 19) fe_233_53 rfl ?_
          exact ay_t_less (ay_ls (ay_ls ay_l0)) (ih _ _ _ _ h)
        · rw [if_neg hc12] at h
          refine ay_t_neg (pc := 45) hc12 fe_233_45 rfl ?_
          refine ay_t_loc (pc := 48) fe_233_48 rfl ?_
          cases h
          exact ay_t_iret fe_233_49 rfl rfl
def fn_233 (D : am_DD) : Option (Int32 × am_DD) := (match fn_36 0 D with | none => none | some (y1, D2) => (if ¬ y1 = 0 then (match fn_211 D2 with | none => none | some (y5, D6) => fn_233_19 am_F 1 D6) else some ((-1), D2)))
set_option maxHeartbeats 2000000 in
theorem ev_233 {D : am_DD} {y : Int32} {Z : am_DD} (h : fn_233  D = some (y, Z)) : ay_mo 233 [.ref 33] D (.inl (some (.int y))) Z := by
  unfold fn_233 at h
  refine ay_m_of (L := [some (.ref 33), none]) rfl ?_
  refine ay_t_loc (pc := 0) fe_233_0 rfl ?_
  refine ay_t_getR (pc := 1) (w := .ref 8) fe_233_1 at_33 (by decide +kernel) rfl ?_
  refine ay_t_stk (pc := 4) (S' := [.int 0, .ref 8]) fe_233_4 rfl ?_
  cases hk3 : fn_36 0 D with
  | none => rw [hk3] at h; cases h
  | some z =>
    obtain ⟨y1, D2⟩ := z
    rw [hk3] at h
    dsimp only at h
    refine ay_t_call (pc := 5) (w := some (.int y1)) fe_233_5 (ay_args [.ref 8, .int 0] [] rfl rfl (Nat.le_of_ble_eq_true rfl) (Nat.le_of_ble_eq_true rfl)) (ay_rcvV at_8 rfl) (ev_36 hk3) ?_
    by_cases hc4 : ¬ y1 = 0
    · rw [if_pos hc4] at h
      refine ay_t_pos (pc := 8) hc4 fe_233_8 rfl ?_
      refine ay_t_loc (pc := 13) fe_233_13 rfl ?_
      cases hk7 : fn_211 D2 with
      | none => rw [hk7] at h; cases h
      | some z =>
        obtain ⟨y5, D6⟩ := z
        rw [hk7] at h
        dsimp only at h
        refine ay_t_call (pc := 14) (w := none) fe_233_14 (ay_args [.ref 33] [] rfl rfl (Nat.le_of_ble_eq_true rfl) (Nat.le_of_ble_eq_true rfl)) (ay_rcvV at_33 rfl) (ev_211 hk7) ?_
        refine ay_t_stk (pc := 17) (S' := [.int 1]) fe_233_17 rfl ?_
        refine ay_t_loc (pc := 18) (L' := [some (.ref 33), some (.int 1)]) fe_233_18 rfl ?_
        exact ay_t_less (ay_ls (ay_ls ay_l0)) (ev_233_19 _ _ _ _ _ h)
    · rw [if_neg hc4] at h
      refine ay_t_neg (pc := 8) hc4 fe_233_8 rfl ?_
      refine ay_t_stk (pc := 11) (S' := [.int (-1)]) fe_233_11 rfl ?_
      cases h
      exact ay_t_iret fe_233_12 rfl rfl
def fn_234 (D : am_DD) : Option (Int32 × am_DD) := (match fn_233 D with | none => none | some (y1, D2) => some (y1, D2))
set_option maxHeartbeats 2000000 in
theorem ev_234 {D : am_DD} {y : Int32} {Z : am_DD} (h : fn_234  D = some (y, Z)) : ay_mo 234 [.ref 0] D (.inl (some (.int y))) Z := by
  unfold fn_234 at h
  refine ay_m_of (L := [some (.ref 0)]) rfl ?_
  refine ay_t_loc (pc := 0) fe_234_0 rfl ?_
  refine ay_t_getR (pc := 1) (w := .ref 33) fe_234_1 at_0 (by decide +kernel) rfl ?_
  cases hk3 : fn_233 D with
  | none => rw [hk3] at h; cases h
  | some z =>
    obtain ⟨y1, D2⟩ := z
    rw [hk3] at h
    dsimp only at h
    refine ay_t_call (pc := 4) (w := some (.int y1)) fe_234_4 (ay_args [.ref 33] [] rfl rfl (Nat.le_of_ble_eq_true rfl) (Nat.le_of_ble_eq_true rfl)) (ay_rcvV at_33 rfl) (ev_233 hk3) ?_
    cases h
    exact ay_t_iret fe_234_7 rfl rfl
def fn_235_9 : Nat → Int32 → Int32 → am_DD → Option (Int32 × am_DD)
  | 0, _, _, _ => none
  | n + 1, x2, x3, D => (if (D 322 1) ≤ x3 then (if ay_isb x2 then some (x2, D) else none) else (if x2 = 0 then fn_235_9 n 0 (x3 + 1) D else (if x3 < 0 ∨ 25 ≤ x3.toNatClampNeg then none else (if ¬ ((D 327 x3.toNatClampNeg) - (D 327 x3.toNatClampNeg) / 2 * 2) = 0 then fn_235_9 n 0 (x3 + 1) D else fn_235_9 n 1 (x3 + 1) D))))
set_option maxHeartbeats 2000000 in
theorem ev_235_9 : ∀ (n : Nat) (x2 x3 : Int32) (D : am_DD) (y : Int32) (Z : am_DD), fn_235_9 n x2 x3 D = some (y, Z) → ay_to 235 9 [some (.ref 321), none, some (.int x2), some (.int x3)] [] D (.inl (some (.int y))) Z := by
  intro n
  induction n with
  | zero => intro x2 x3 D y Z h; cases h
  | succ n ih =>
    intro x2 x3 D y Z h
    rw [fn_235_9] at h
    refine ay_t_loc (pc := 9) fe_235_9 rfl ?_
    refine ay_t_loc (pc := 10) fe_235_10 rfl ?_
    refine ay_t_getR (pc := 11) (w := .ref 322) fe_235_11 at_321 (by decide +kernel) rfl ?_
    refine ay_t_stk (pc := 14) (S' := [.int 1, .ref 322, .int x3]) fe_235_14 rfl ?_
    refine ay_t_ialoadk (pc := 15) (k := 1) fe_235_15 at_322 (by decide) (by decide) (by decide) ?_
    by_cases hc4 : (D 322 1) ≤ x3
    · rw [if_pos hc4] at h
      refine ay_t_pos (pc := 16) hc4 fe_235_16 rfl ?_
      refine ay_t_loc (pc := 46) fe_235_46 rfl ?_
      by_cases hn5 : ay_isb x2
      · rw [if_pos hn5] at h
        cases h
        exact ay_t_zret fe_235_47 rfl hn5
      · rw [if_neg hn5] at h; cases h
    · rw [if_neg hc4] at h
      refine ay_t_neg (pc := 16) hc4 fe_235_16 rfl ?_
      refine ay_t_loc (pc := 19) fe_235_19 rfl ?_
      by_cases hc6 : x2 = 0
      · rw [if_pos hc6] at h
        refine ay_t_pos (pc := 20) hc6 fe_235_20 rfl ?_
        refine ay_t_stk (pc := 38) (S' := [.int 0]) fe_235_38 rfl ?_
        refine ay_t_loc (pc := 39) (L' := [some (.ref 321), none, some (.int 0), some (.int x3)]) fe_235_39 rfl ?_
        refine ay_t_loc (pc := 40) (L' := [some (.ref 321), none, some (.int 0), some (.int (x3 + 1))]) fe_235_40 rfl ?_
        refine ay_t_br (pc := 43) (pc' := 9) fe_235_43 rfl ?_
        exact ay_t_less (ay_ls (ay_ls (ay_ls (ay_ls ay_l0)))) (ih _ _ _ _ _ h)
      · rw [if_neg hc6] at h
        refine ay_t_neg (pc := 20) hc6 fe_235_20 rfl ?_
        refine ay_t_loc (pc := 23) fe_235_23 rfl ?_
        refine ay_t_getR (pc := 24) (w := .ref 327) fe_235_24 at_321 (by decide +kernel) rfl ?_
        refine ay_t_loc (pc := 27) fe_235_27 rfl ?_
        by_cases hb7 : x3 < 0 ∨ 25 ≤ x3.toNatClampNeg
        · rw [if_pos hb7] at h; cases h
        rw [if_neg hb7] at h
        refine ay_t_iaload (pc := 28) fe_235_28 at_327 (by decide) hb7 ?_
        refine ay_t_stk (pc := 29) (S' := [.int 2, .int (D 327 x3.toNatClampNeg)]) fe_235_29 rfl ?_
        refine ay_t_stk (pc := 30) (S' := [.int ((D 327 x3.toNatClampNeg) - (D 327 x3.toNatClampNeg) / 2 * 2)]) fe_235_30 (ay_irem (by decide)) ?_
        by_cases hc8 : ¬ ((D 327 x3.toNatClampNeg) - (D 327 x3.toNatClampNeg) / 2 * 2) = 0
        · rw [if_pos hc8] at h
          refine ay_t_pos (pc := 31) hc8 fe_235_31 rfl ?_
          refine ay_t_stk (pc := 38) (S' := [.int 0]) fe_235_38 rfl ?_
          refine ay_t_loc (pc := 39) (L' := [some (.ref 321), none, some (.int 0), some (.int x3)]) fe_235_39 rfl ?_
          refine ay_t_loc (pc := 40) (L' := [some (.ref 321), none, some (.int 0), some (.int (x3 + 1))]) fe_235_40 rfl ?_
          refine ay_t_br (pc := 43) (pc' := 9) fe_235_43 rfl ?_
          exact ay_t_less (ay_ls (ay_ls (ay_ls (ay_ls ay_l0)))) (ih _ _ _ _ _ h)
        · rw [if_neg hc8] at h
          refine ay_t_neg (pc := 31) hc8 fe_235_31 rfl ?_
          refine ay_t_stk (pc := 34) (S' := [.int 1]) fe_235_34 rfl ?_
          refine ay_t_br (pc := 35) (pc' := 39) fe_235_35 rfl ?_
          refine ay_t_loc (pc := 39) (L' := [some (.ref 321), none, some (.int 1), some (.int x3)]) fe_235_39 rfl ?_
          refine ay_t_loc (pc := 40) (L' := [some (.ref 321), none, some (.int 1), some (.int (x3 + 1))]) fe_235_40 rfl ?_
          refine ay_t_br (pc := 43) (pc' := 9) fe_235_43 rfl ?_
          exact ay_t_less (ay_ls (ay_ls (ay_ls (ay_ls ay_l0)))) (ih _ _ _ _ _ h)
def fn_235 (a1 : Int32) (D : am_DD) : Option (Int32 × am_DD) := (match fn_218 a1 D with | none => none | some (y1, D2) => fn_235_9 am_F 1 0 D2)
set_option maxHeartbeats 2000000 in
theorem ev_235 {a1 : Int32} {D : am_DD} {y : Int32} {Z : am_DD} (h : fn_235 a1 D = some (y, Z)) : ay_mo 235 [.ref 321, .int a1] D (.inl (some (.int y))) Z := by
  unfold fn_235 at h
  refine ay_m_of (L := [some (.ref 321), some (.int a1), none, none]) rfl ?_
  refine ay_t_loc (pc := 0) fe_235_0 rfl ?_
  refine ay_t_loc (pc := 1) fe_235_1 rfl ?_
  cases hk3 : fn_218 a1 D with
  | none => rw [hk3] at h; cases h
  | some z =>
    obtain ⟨y1, D2⟩ := z
    rw [hk3] at h
    dsimp only at h
    refine ay_t_call (pc := 2) (w := none) fe_235_2 (ay_args [.ref 321, .int a1] [] rfl rfl (Nat.le_of_ble_eq_true rfl) (Nat.le_of_ble_eq_true rfl)) (ay_rcvV at_321 rfl) (ev_218 hk3) ?_
    refine ay_t_stk (pc := 5) (S' := [.int 1]) fe_235_5 rfl ?_
    refine ay_t_loc (pc := 6) (L' := [some (.ref 321), some (.int a1), some (.int 1), none]) fe_235_6 rfl ?_
    refine ay_t_stk (pc := 7) (S' := [.int 0]) fe_235_7 rfl ?_
    refine ay_t_loc (pc := 8) (L' := [some (.ref 321), some (.int a1), some (.int 1), some (.int 0)]) fe_235_8 rfl ?_
    exact ay_t_less (ay_ls (ay_ln (ay_ls (ay_ls ay_l0)))) (ev_235_9 _ _ _ _ _ _ h)
def fn_236_7 : Nat → Int32 → am_DD → Option (Int32 × am_DD)
  | 0, _, _ => none
  | n + 1, x1, D => (if 4096 ≤ x1 then (if ¬ (D 322 1) = 0 then some (x1, D) else some ((-1), D)) else (match fn_235 x1 D with | none => none | some (y3, D4) => (if ¬ y3 = 0 then (if ¬ (D4 322 1) = 0 then some (x1, D4) else some ((-1), D4)) else fn_236_7 n (x1 + 1) D4)))
set_option maxHeartbeats 2000000 in
theorem ev_236_7 : ∀ (n : Nat) (x1 : Int32) (D : am_DD) (y : Int32) (Z : am_DD), fn_236_7 n x1 D = some (y, Z) → ay_to 236 7 [some (.ref 321), some (.int x1)] [] D (.inl (some (.int y))) Z := by
  intro n
  induction n with
  | zero => intro x1 D y Z h; cases h
  | succ n ih =>
    intro x1 D y Z h
    rw [fn_236_7] at h
    refine ay_t_loc (pc := 7) fe_236_7 rfl ?_
    refine ay_t_stk (pc := 8) (S' := [.int 4096, .int x1]) fe_236_8 rfl ?_
    by_cases hc1 : 4096 ≤ x1
    · rw [if_pos hc1] at h
      refine ay_t_pos (pc := 11) hc1 fe_236_11 rfl ?_
      refine ay_t_loc (pc := 28) fe_236_28 rfl ?_
      refine ay_t_getR (pc := 29) (w := .ref 322) fe_236_29 at_321 (by decide +kernel) rfl ?_
      refine ay_t_stk (pc := 32) (S' := [.int 1, .ref 322]) fe_236_32 rfl ?_
      refine ay_t_ialoadk (pc := 33) (k := 1) fe_236_33 at_322 (by decide) (by decide) (by decide) ?_
      by_cases hc2 : ¬ (D 322 1) = 0
      · rw [if_pos hc2] at h
        refine ay_t_pos (pc := 34) hc2 fe_236_34 rfl ?_
        refine ay_t_loc (pc := 41) fe_236_41 rfl ?_
        cases h
        exact ay_t_iret fe_236_42 rfl rfl
      · rw [if_neg hc2] at h
        refine ay_t_neg (pc := 34) hc2 fe_236_34 rfl ?_
        refine ay_t_stk (pc := 37) (S' := [.int (-1)]) fe_236_37 rfl ?_
        refine ay_t_br (pc := 38) (pc' := 42) fe_236_38 rfl ?_
        cases h
        exact ay_t_iret fe_236_42 rfl rfl
    · rw [if_neg hc1] at h
      refine ay_t_neg (pc := 11) hc1 fe_236_11 rfl ?_
      refine ay_t_loc (pc := 14) fe_236_14 rfl ?_
      refine ay_t_loc (pc := 15) fe_236_15 rfl ?_
      cases hk5 : fn_235 x1 D with
      | none => rw [hk5] at h; cases h
      | some z =>
        obtain ⟨y3, D4⟩ := z
        rw [hk5] at h
        dsimp only at h
        refine ay_t_call (pc := 16) (w := some (.int y3)) fe_236_16 (ay_args [.ref 321, .int x1] [] rfl rfl (Nat.le_of_ble_eq_true rfl) (Nat.le_of_ble_eq_true rfl)) (ay_rcvV at_321 rfl) (ev_235 hk5) ?_
        by_cases hc6 : ¬ y3 = 0
        · rw [if_pos hc6] at h
          refine ay_t_pos (pc := 19) hc6 fe_236_19 rfl ?_
          refine ay_t_loc (pc := 28) fe_236_28 rfl ?_
          refine ay_t_getR (pc := 29) (w := .ref 322) fe_236_29 at_321 (by decide +kernel) rfl ?_
          refine ay_t_stk (pc := 32) (S' := [.int 1, .ref 322]) fe_236_32 rfl ?_
          refine ay_t_ialoadk (pc := 33) (k := 1) fe_236_33 at_322 (by decide) (by decide) (by decide) ?_
          by_cases hc7 : ¬ (D4 322 1) = 0
          · rw [if_pos hc7] at h
            refine ay_t_pos (pc := 34) hc7 fe_236_34 rfl ?_
            refine ay_t_loc (pc := 41) fe_236_41 rfl ?_
            cases h
            exact ay_t_iret fe_236_42 rfl rfl
          · rw [if_neg hc7] at h
            refine ay_t_neg (pc := 34) hc7 fe_236_34 rfl ?_
            refine ay_t_stk (pc := 37) (S' := [.int (-1)]) fe_236_37 rfl ?_
            refine ay_t_br (pc := 38) (pc' := 42) fe_236_38 rfl ?_
            cases h
            exact ay_t_iret fe_236_42 rfl rfl
        · rw [if_neg hc6] at h
          refine ay_t_neg (pc := 19) hc6 fe_236_19 rfl ?_
          refine ay_t_loc (pc := 22) (L' := [some (.ref 321), some (.int (x1 + 1))]) fe_236_22 rfl ?_
          refine ay_t_br (pc := 25) (pc' := 7) fe_236_25 rfl ?_
          exact ay_t_less (ay_ls (ay_ls ay_l0)) (ih _ _ _ _ h)
def fn_236 (D : am_DD) : Option (Int32 × am_DD) := fn_236_7 am_F 1 (am_upd D 321 7 0)
set_option maxHeartbeats 2000000 in
theorem ev_236 {D : am_DD} {y : Int32} {Z : am_DD} (h : fn_236  D = some (y, Z)) : ay_mo 236 [.ref 321] D (.inl (some (.int y))) Z := by
  unfold fn_236 at h
  refine ay_m_of (L := [some (.ref 321), none]) rfl ?_
  refine ay_t_loc (pc := 0) fe_236_0 rfl ?_
  refine ay_t_stk (pc := 1) (S' := [.int 0, .ref 321]) fe_236_1 rfl ?_
  refine ay_t_put (pc := 2) fe_236_2 at_321 (by decide +kernel) rfl rfl ?_
  refine ay_t_stk (pc := 5) (S' := [.int 1]) fe_236_5 rfl ?_
  refine ay_t_loc (pc := 6) (L' := [some (.ref 321), some (.int 1)]) fe_236_6 rfl ?_
  exact ay_t_less (ay_ls (ay_ls ay_l0)) (ev_236_7 _ _ _ _ _ h)
def fn_237_17 : Nat → Int32 → Int32 → am_DD → Option (Int32 × am_DD)
  | 0, _, _, _ => none
  | n + 1, x1, x2, D => (if x2 < 0 then some ((rw_at (D 39) 25 0), D) else (match fn_73 x2 0 D with | none => none | some (y2, D3) => (match fn_73 x2 1 D3 with | none => none | some (y5, D6) => (if x1 = 0 then fn_237_17 n x1 (x2 + (-1)) (rw_put D6 39 25 x2 (1 + (if (rw_at (D6 39) 25 y5) < (rw_at (D3 39) 25 y2) then (rw_at (D6 39) 25 y5) else (rw_at (D3 39) 25 y2)))) else fn_237_17 n x1 (x2 + (-1)) (rw_put D6 39 25 x2 (1 + (if (rw_at (D3 39) 25 y2) < (rw_at (D6 39) 25 y5) then (rw_at (D6 39) 25 y5) else (rw_at (D3 39) 25 y2))))))))
set_option maxHeartbeats 2000000 in
theorem ev_237_17 : ∀ (n : Nat) (x1 x2 : Int32) (D : am_DD) (y : Int32) (Z : am_DD), fn_237_17 n x1 x2 D = some (y, Z) → ay_to 237 17 [some (.ref 33), some (.int x1), some (.int x2), none, none] [] D (.inl (some (.int y))) Z := by
  intro n
  induction n with
  | zero => intro x1 x2 D y Z h; cases h
  | succ n ih =>
    intro x1 x2 D y Z h
    rw [fn_237_17] at h
    refine ay_t_loc (pc := 17) fe_237_17 rfl ?_
    by_cases hc1 : x2 < 0
    · rw [if_pos hc1] at h
      refine ay_t_pos (pc := 18) hc1 fe_237_18 rfl ?_
      refine ay_t_loc (pc := 91) fe_237_91 rfl ?_
      refine ay_t_getR (pc := 92) (w := .ref 38) fe_237_92 at_33 (by decide +kernel) rfl ?_
      refine ay_t_stk (pc := 95) (S' := [.int 0, .ref 38]) fe_237_95 rfl ?_
      refine ay_t_call (pc := 96) (w := some (.int (rw_at (D 39) 25 0))) fe_237_96 (ay_args [.ref 38, .int 0] [] rfl rfl (Nat.le_of_ble_eq_true rfl) (Nat.le_of_ble_eq_true rfl)) (ay_rcvV at_38 rfl) (mt_at at_38 at_39 (by decide)) ?_
      cases h
      exact ay_t_iret fe_237_99 rfl rfl
    · rw [if_neg hc1] at h
      refine ay_t_neg (pc := 18) hc1 fe_237_18 rfl ?_
      refine ay_t_loc (pc := 21) fe_237_21 rfl ?_
      refine ay_t_getR (pc := 22) (w := .ref 38) fe_237_22 at_33 (by decide +kernel) rfl ?_
      refine ay_t_loc (pc := 25) fe_237_25 rfl ?_
      refine ay_t_getR (pc := 26) (w := .ref 8) fe_237_26 at_33 (by decide +kernel) rfl ?_
      refine ay_t_loc (pc := 29) fe_237_29 rfl ?_
      refine ay_t_stk (pc := 30) (S' := [.int 0, .int x2, .ref 8, .ref 38]) fe_237_30 rfl ?_
      cases hk4 : fn_73 x2 0 D with
      | none => rw [hk4] at h; cases h
      | some z =>
        obtain ⟨y2, D3⟩ := z
        rw [hk4] at h
        dsimp only at h
        refine ay_t_call (pc := 31) (w := some (.int y2)) fe_237_31 (ay_args [.ref 8, .int x2, .int 0] [.ref 38] rfl rfl (Nat.le_of_ble_eq_true rfl) (Nat.le_of_ble_eq_true rfl)) (ay_rcvV at_8 rfl) (ev_73 hk4) ?_
        refine ay_t_call (pc := 34) (w := some (.int (rw_at (D3 39) 25 y2))) fe_237_34 (ay_args [.ref 38, .int y2] [] rfl rfl (Nat.le_of_ble_eq_true rfl) (Nat.le_of_ble_eq_true rfl)) (ay_rcvV at_38 rfl) (mt_at at_38 at_39 (by decide)) ?_
        refine ay_t_loc (pc := 37) (L' := [some (.ref 33), some (.int x1), some (.int x2), some (.int (rw_at (D3 39) 25 y2)), none]) fe_237_37 rfl ?_
        refine ay_t_loc (pc := 38) fe_237_38 rfl ?_
        refine ay_t_getR (pc := 39) (w := .ref 38) fe_237_39 at_33 (by decide +kernel) rfl ?_
        refine ay_t_loc (pc := 42) fe_237_42 rfl ?_
        refine ay_t_getR (pc := 43) (w := .ref 8) fe_237_43 at_33 (by decide +kernel) rfl ?_
        refine ay_t_loc (pc := 46) fe_237_46 rfl ?_
        refine ay_t_stk (pc := 47) (S' := [.int 1, .int x2, .ref 8, .ref 38]) fe_237_47 rfl ?_
        cases hk7 : fn_73 x2 1 D3 with
        | none => rw [hk7] at h; cases h
        | some z =>
          obtain ⟨y5, D6⟩ := z
          rw [hk7] at h
          dsimp only at h
          refine ay_t_call (pc := 48) (w := some (.int y5)) fe_237_48 (ay_args [.ref 8, .int x2, .int 1] [.ref 38] rfl rfl (Nat.le_of_ble_eq_true rfl) (Nat.le_of_ble_eq_true rfl)) (ay_rcvV at_8 rfl) (ev_73 hk7) ?_
          refine ay_t_call (pc := 51) (w := some (.int (rw_at (D6 39) 25 y5))) fe_237_51 (ay_args [.ref 38, .int y5] [] rfl rfl (Nat.le_of_ble_eq_true rfl) (Nat.le_of_ble_eq_true rfl)) (ay_rcvV at_38 rfl) (mt_at at_38 at_39 (by decide)) ?_
          refine ay_t_loc (pc := 54) (L' := [some (.ref 33), some (.int x1), some (.int x2), some (.int (rw_at (D3 39) 25 y2)), some (.int (rw_at (D6 39) 25 y5))]) fe_237_54 rfl ?_
          refine ay_t_loc (pc := 56) fe_237_56 rfl ?_
          refine ay_t_getR (pc := 57) (w := .ref 38) fe_237_57 at_33 (by decide +kernel) rfl ?_
          refine ay_t_loc (pc := 60) fe_237_60 rfl ?_
          refine ay_t_stk (pc := 61) (S' := [.int 1, .int x2, .ref 38]) fe_237_61 rfl ?_
          refine ay_t_loc (pc := 62) fe_237_62 rfl ?_
          by_cases hc8 : x1 = 0
          · rw [if_pos hc8] at h
            refine ay_t_pos (pc := 63) hc8 fe_237_63 rfl ?_
            refine ay_t_loc (pc := 75) fe_237_75 rfl ?_
            refine ay_t_loc (pc := 76) fe_237_76 rfl ?_
            refine ay_t_lib (pc := 78) (S' := [.int (if (rw_at (D6 39) 25 y5) < (rw_at (D3 39) 25 y2) then (rw_at (D6 39) 25 y5) else (rw_at (D3 39) 25 y2)), .int 1, .int x2, .ref 38]) fe_237_78 rfl ?_
            refine ay_t_stk (pc := 81) (S' := [.int (1 + (if (rw_at (D6 39) 25 y5) < (rw_at (D3 39) 25 y2) then (rw_at (D6 39) 25 y5) else (rw_at (D3 39) 25 y2))), .int x2, .ref 38]) fe_237_81 rfl ?_
            refine ay_t_call (pc := 82) (w := none) fe_237_82 (ay_args [.ref 38, .int x2, .int (1 + (if (rw_at (D6 39) 25 y5) < (rw_at (D3 39) 25 y2) then (rw_at (D6 39) 25 y5) else (rw_at (D3 39) 25 y2)))] [] rfl rfl (Nat.le_of_ble_eq_true rfl) (Nat.le_of_ble_eq_true rfl)) (ay_rcvV at_38 rfl) (mt_put at_38 at_39 (by decide)) ?_
            refine ay_t_loc (pc := 85) (L' := [some (.ref 33), some (.int x1), some (.int (x2 + (-1))), some (.int (rw_at (D3 39) 25 y2)), some (.int (rw_at (D6 39) 25 y5))]) fe_237_85 rfl ?_
            refine ay_t_br (pc := 88) (pc' := 17) fe_237_88 rfl ?_
            exact ay_t_less (ay_ls (ay_ls (ay_ls (ay_ln (ay_ln ay_l0))))) (ih _ _ _ _ _ h)
          · rw [if_neg hc8] at h
            refine ay_t_neg (pc := 63) hc8 fe_237_63 rfl ?_
            refine ay_t_loc (pc := 66) fe_237_66 rfl ?_
            refine ay_t_loc (pc := 67) fe_237_67 rfl ?_
            refine ay_t_lib (pc := 69) (S' := [.int (if (rw_at (D3 39) 25 y2) < (rw_at (D6 39) 25 y5) then (rw_at (D6 39) 25 y5) else (rw_at (D3 39) 25 y2)), .int 1, .int x2, .ref 38]) fe_237_69 rfl ?_
            refine ay_t_br (pc := 72) (pc' := 81) fe_237_72 rfl ?_
            refine ay_t_stk (pc := 81) (S' := [.int (1 + (if (rw_at (D3 39) 25 y2) < (rw_at (D6 39) 25 y5) then (rw_at (D6 39) 25 y5) else (rw_at (D3 39) 25 y2))), .int x2, .ref 38]) fe_237_81 rfl ?_
            refine ay_t_call (pc := 82) (w := none) fe_237_82 (ay_args [.ref 38, .int x2, .int (1 + (if (rw_at (D3 39) 25 y2) < (rw_at (D6 39) 25 y5) then (rw_at (D6 39) 25 y5) else (rw_at (D3 39) 25 y2)))] [] rfl rfl (Nat.le_of_ble_eq_true rfl) (Nat.le_of_ble_eq_true rfl)) (ay_rcvV at_38 rfl) (mt_put at_38 at_39 (by decide)) ?_
            refine ay_t_loc (pc := 85) (L' := [some (.ref 33), some (.int x1), some (.int (x2 + (-1))), some (.int (rw_at (D3 39) 25 y2)), some (.int (rw_at (D6 39) 25 y5))]) fe_237_85 rfl ?_
            refine ay_t_br (pc := 88) (pc' := 17) fe_237_88 rfl ?_
            exact ay_t_less (ay_ls (ay_ls (ay_ls (ay_ln (ay_ln ay_l0))))) (ih _ _ _ _ _ h)
def fn_237 (a1 : Int32) (D : am_DD) : Option (Int32 × am_DD) := fn_237_17 am_F a1 (((rw_wipe D 39 25) 8 0) - 1) (rw_wipe D 39 25)
set_option maxHeartbeats 2000000 in
theorem ev_237 {a1 : Int32} {D : am_DD} {y : Int32} {Z : am_DD} (h : fn_237 a1 D = some (y, Z)) : ay_mo 237 [.ref 33, .int a1] D (.inl (some (.int y))) Z := by
  unfold fn_237 at h
  refine ay_m_of (L := [some (.ref 33), some (.int a1), none, none, none]) rfl ?_
  refine ay_t_loc (pc := 0) fe_237_0 rfl ?_
  refine ay_t_getR (pc := 1) (w := .ref 38) fe_237_1 at_33 (by decide +kernel) rfl ?_
  refine ay_t_call (pc := 4) (w := none) fe_237_4 (ay_args [.ref 38] [] rfl rfl (Nat.le_of_ble_eq_true rfl) (Nat.le_of_ble_eq_true rfl)) (ay_rcvV at_38 rfl) (mt_wipe at_38 at_39 (by decide)) ?_
  refine ay_t_loc (pc := 7) fe_237_7 rfl ?_
  refine ay_t_getR (pc := 8) (w := .ref 8) fe_237_8 at_33 (by decide +kernel) rfl ?_
  refine ay_t_getI (pc := 11) fe_237_11 at_8 (by decide +kernel) rfl ?_
  refine ay_t_stk (pc := 14) (S' := [.int 1, .int ((rw_wipe D 39 25) 8 0)]) fe_237_14 rfl ?_
  refine ay_t_stk (pc := 15) (S' := [.int (((rw_wipe D 39 25) 8 0) - 1)]) fe_237_15 rfl ?_
  refine ay_t_loc (pc := 16) (L' := [some (.ref 33), some (.int a1), some (.int (((rw_wipe D 39 25) 8 0) - 1)), none, none]) fe_237_16 rfl ?_
  exact ay_t_less (ay_ls (ay_ls (ay_ls (ay_ls (ay_ls ay_l0))))) (ev_237_17 _ _ _ _ _ _ h)
def fn_238 (a1 : Int32) (D : am_DD) : Option (Int32 × am_DD) := (match fn_237 a1 D with | none => none | some (y1, D2) => some (y1, D2))
set_option maxHeartbeats 2000000 in
theorem ev_238 {a1 : Int32} {D : am_DD} {y : Int32} {Z : am_DD} (h : fn_238 a1 D = some (y, Z)) : ay_mo 238 [.ref 0, .int a1] D (.inl (some (.int y))) Z := by
  unfold fn_238 at h
  refine ay_m_of (L := [some (.ref 0), some (.int a1)]) rfl ?_
  refine ay_t_loc (pc := 0) fe_238_0 rfl ?_
  refine ay_t_getR (pc := 1) (w := .ref 33) fe_238_1 at_0 (by decide +kernel) rfl ?_
  refine ay_t_loc (pc := 4) fe_238_4 rfl ?_
  cases hk3 : fn_237 a1 D with
  | none => rw [hk3] at h; cases h
  | some z =>
    obtain ⟨y1, D2⟩ := z
    rw [hk3] at h
    dsimp only at h
    refine ay_t_call (pc := 5) (w := some (.int y1)) fe_238_5 (ay_args [.ref 33, .int a1] [] rfl rfl (Nat.le_of_ble_eq_true rfl) (Nat.le_of_ble_eq_true rfl)) (ay_rcvV at_33 rfl) (ev_237 hk3) ?_
    cases h
    exact ay_t_iret fe_238_8 rfl rfl
def fn_239_35 : Nat → Int32 → Int32 → am_DD → Option (Int32 × am_DD)
  | 0, _, _, _ => none
  | n + 1, x1, x2, D => (if x2 < 0 then some ((D 327 0), D) else (match fn_48 x2 2 D with | none => none | some (y4, D5) => (if y4 < 0 ∨ 25 ≤ y4.toNatClampNeg then none else (match fn_48 x2 3 D5 with | none => none | some (y8, D9) => (if y8 < 0 ∨ 25 ≤ y8.toNatClampNeg then none else (if (D5 327 y4.toNatClampNeg) ≤ (D9 327 y8.toNatClampNeg) then (if ¬ 0 = x1 then (if x2 < 0 ∨ 25 ≤ x2.toNatClampNeg then none else fn_239_35 n x1 (x2 + (-1)) (am_upd D9 327 x2.toNatClampNeg (1 + (D9 327 y8.toNatClampNeg)))) else (if x2 < 0 ∨ 25 ≤ x2.toNatClampNeg then none else fn_239_35 n x1 (x2 + (-1)) (am_upd D9 327 x2.toNatClampNeg (1 + (D5 327 y4.toNatClampNeg))))) else (if ¬ 1 = x1 then (if x2 < 0 ∨ 25 ≤ x2.toNatClampNeg then none else fn_239_35 n x1 (x2 + (-1)) (am_upd D9 327 x2.toNatClampNeg (1 + (D9 327 y8.toNatClampNeg)))) else (if x2 < 0 ∨ 25 ≤ x2.toNatClampNeg then none else fn_239_35 n x1 (x2 + (-1)) (am_upd D9 327 x2.toNatClampNeg (1 + (D5 327 y4.toNatClampNeg)))))))))))
set_option maxHeartbeats 2000000 in
theorem ev_239_35 : ∀ (n : Nat) (x1 x2 : Int32) (D : am_DD) (y : Int32) (Z : am_DD), fn_239_35 n x1 x2 D = some (y, Z) → ay_to 239 35 [some (.ref 321), some (.int x1), some (.int x2), none, none] [] D (.inl (some (.int y))) Z := by
  intro n
  induction n with
  | zero => intro x1 x2 D y Z h; cases h
  | succ n ih =>
    intro x1 x2 D y Z h
    rw [fn_239_35] at h
    refine ay_t_loc (pc := 35) fe_239_35 rfl ?_
    by_cases hc3 : x2 < 0
    · rw [if_pos hc3] at h
      refine ay_t_pos (pc := 36) hc3 fe_239_36 rfl ?_
      refine ay_t_loc (pc := 99) fe_239_99 rfl ?_
      refine ay_t_getR (pc := 100) (w := .ref 327) fe_239_100 at_321 (by decide +kernel) rfl ?_
      refine ay_t_stk (pc := 103) (S' := [.int 0, .ref 327]) fe_239_103 rfl ?_
      refine ay_t_ialoadk (pc := 104) (k := 0) fe_239_104 at_327 (by decide) (by decide) (by decide) ?_
      cases h
      exact ay_t_iret fe_239_105 rfl rfl
    · rw [if_neg hc3] at h
      refine ay_t_neg (pc := 36) hc3 fe_239_36 rfl ?_
      refine ay_t_loc (pc := 39) fe_239_39 rfl ?_
      refine ay_t_getR (pc := 40) (w := .ref 327) fe_239_40 at_321 (by decide +kernel) rfl ?_
      refine ay_t_loc (pc := 43) fe_239_43 rfl ?_
      refine ay_t_loc (pc := 44) fe_239_44 rfl ?_
      refine ay_t_stk (pc := 45) (S' := [.int 2, .int x2, .ref 321, .ref 327]) fe_239_45 rfl ?_
      cases hk6 : fn_48 x2 2 D with
      | none => rw [hk6] at h; cases h
      | some z =>
        obtain ⟨y4, D5⟩ := z
        rw [hk6] at h
        dsimp only at h
        refine ay_t_call (pc := 46) (w := some (.int y4)) fe_239_46 (ay_args [.ref 321, .int x2, .int 2] [.ref 327] rfl rfl (Nat.le_of_ble_eq_true rfl) (Nat.le_of_ble_eq_true rfl)) (ay_rcvV at_321 rfl) (ev_48 hk6) ?_
        by_cases hb7 : y4 < 0 ∨ 25 ≤ y4.toNatClampNeg
        · rw [if_pos hb7] at h; cases h
        rw [if_neg hb7] at h
        refine ay_t_iaload (pc := 49) fe_239_49 at_327 (by decide) hb7 ?_
        refine ay_t_loc (pc := 50) (L' := [some (.ref 321), some (.int x1), some (.int x2), some (.int (D5 327 y4.toNatClampNeg)), none]) fe_239_50 rfl ?_
        refine ay_t_loc (pc := 51) fe_239_51 rfl ?_
        refine ay_t_getR (pc := 52) (w := .ref 327) fe_239_52 at_321 (by decide +kernel) rfl ?_
        refine ay_t_loc (pc := 55) fe_239_55 rfl ?_
        refine ay_t_loc (pc := 56) fe_239_56 rfl ?_
        refine ay_t_stk (pc := 57) (S' := [.int 3, .int x2, .ref 321, .ref 327]) fe_239_57 rfl ?_
        cases hk10 : fn_48 x2 3 D5 with
        | none => rw [hk10] at h; cases h
        | some z =>
          obtain ⟨y8, D9⟩ := z
          rw [hk10] at h
          dsimp only at h
          refine ay_t_call (pc := 58) (w := some (.int y8)) fe_239_58 (ay_args [.ref 321, .int x2, .int 3] [.ref 327] rfl rfl (Nat.le_of_ble_eq_true rfl) (Nat.le_of_ble_eq_true rfl)) (ay_rcvV at_321 rfl) (ev_48 hk10) ?_
          by_cases hb11 : y8 < 0 ∨ 25 ≤ y8.toNatClampNeg
          · rw [if_pos hb11] at h; cases h
          rw [if_neg hb11] at h
          refine ay_t_iaload (pc := 61) fe_239_61 at_327 (by decide) hb11 ?_
          refine ay_t_loc (pc := 62) (L' := [some (.ref 321), some (.int x1), some (.int x2), some (.int (D5 327 y4.toNatClampNeg)), some (.int (D9 327 y8.toNatClampNeg))]) fe_239_62 rfl ?_
          refine ay_t_loc (pc := 64) fe_239_64 rfl ?_
          refine ay_t_getR (pc := 65) (w := .ref 327) fe_239_65 at_321 (by decide +kernel) rfl ?_
          refine ay_t_loc (pc := 68) fe_239_68 rfl ?_
          refine ay_t_stk (pc := 69) (S' := [.int 1, .int x2, .ref 327]) fe_239_69 rfl ?_
          refine ay_t_loc (pc := 70) fe_239_70 rfl ?_
          refine ay_t_loc (pc := 71) fe_239_71 rfl ?_
          by_cases hc12 : (D5 327 y4.toNatClampNeg) ≤ (D9 327 y8.toNatClampNeg)
          · rw [if_pos hc12] at h
            refine ay_t_pos (pc := 73) hc12 fe_239_73 rfl ?_
            refine ay_t_stk (pc := 80) (S' := [.int 0, .int 1, .int x2, .ref 327]) fe_239_80 rfl ?_
            refine ay_t_loc (pc := 81) fe_239_81 rfl ?_
            by_cases hc13 : ¬ 0 = x1
            · rw [if_pos hc13] at h
              refine ay_t_pos (pc := 82) hc13 fe_239_82 rfl ?_
              refine ay_t_loc (pc := 89) fe_239_89 rfl ?_
              refine ay_t_stk (pc := 91) (S' := [.int (1 + (D9 327 y8.toNatClampNeg)), .int x2, .ref 327]) fe_239_91 rfl ?_
              by_cases hb14 : x2 < 0 ∨ 25 ≤ x2.toNatClampNeg
              · rw [if_pos hb14] at h; cases h
              rw [if_neg hb14] at h
              refine ay_t_iastore (pc := 92) fe_239_92 at_327 hb14 ?_
              refine ay_t_loc (pc := 93) (L' := [some (.ref 321), some (.int x1), some (.int (x2 + (-1))), some (.int (D5 327 y4.toNatClampNeg)), some (.int (D9 327 y8.toNatClampNeg))]) fe_239_93 rfl ?_
              refine ay_t_br (pc := 96) (pc' := 35) fe_239_96 rfl ?_
              exact ay_t_less (ay_ls (ay_ls (ay_ls (ay_ln (ay_ln ay_l0))))) (ih _ _ _ _ _ h)
            · rw [if_neg hc13] at h
              refine ay_t_neg (pc := 82) hc13 fe_239_82 rfl ?_
              refine ay_t_loc (pc := 85) fe_239_85 rfl ?_
              refine ay_t_br (pc := 86) (pc' := 91) fe_239_86 rfl ?_
              refine ay_t_stk (pc := 91) (S' := [.int (1 + (D5 327 y4.toNatClampNeg)), .int x2, .ref 327]) fe_239_91 rfl ?_
              by_cases hb15 : x2 < 0 ∨ 25 ≤ x2.toNatClampNeg
              · rw [if_pos hb15] at h; cases h
              rw [if_neg hb15] at h
              refine ay_t_iastore (pc := 92) fe_239_92 at_327 hb15 ?_
              refine ay_t_loc (pc := 93) (L' := [some (.ref 321), some (.int x1), some (.int (x2 + (-1))), some (.int (D5 327 y4.toNatClampNeg)), some (.int (D9 327 y8.toNatClampNeg))]) fe_239_93 rfl ?_
              refine ay_t_br (pc := 96) (pc' := 35) fe_239_96 rfl ?_
              exact ay_t_less (ay_ls (ay_ls (ay_ls (ay_ln (ay_ln ay_l0))))) (ih _ _ _ _ _ h)
          · rw [if_neg hc12] at h
            refine ay_t_neg (pc := 73) hc12 fe_239_73 rfl ?_
            refine ay_t_stk (pc := 76) (S' := [.int 1, .int 1, .int x2, .ref 327]) fe_239_76 rfl ?_
            refine ay_t_br (pc := 77) (pc' := 81) fe_239_77 rfl ?_
            refine ay_t_loc (pc := 81) fe_239_81 rfl ?_
            by_cases hc16 : ¬ 1 = x1
            · rw [if_pos hc16] at h
              refine ay_t_pos (pc := 82) hc16 fe_239_82 rfl ?_
              refine ay_t_loc (pc := 89) fe_239_89 rfl ?_
              refine ay_t_stk (pc := 91) (S' := [.int (1 + (D9 327 y8.toNatClampNeg)), .int x2, .ref 327]) fe_239_91 rfl ?_
              by_cases hb17 : x2 < 0 ∨ 25 ≤ x2.toNatClampNeg
              · rw [if_pos hb17] at h; cases h
              rw [if_neg hb17] at h
              refine ay_t_iastore (pc := 92) fe_239_92 at_327 hb17 ?_
              refine ay_t_loc (pc := 93) (L' := [some (.ref 321), some (.int x1), some (.int (x2 + (-1))), some (.int (D5 327 y4.toNatClampNeg)), some (.int (D9 327 y8.toNatClampNeg))]) fe_239_93 rfl ?_
              refine ay_t_br (pc := 96) (pc' := 35) fe_239_96 rfl ?_
              exact ay_t_less (ay_ls (ay_ls (ay_ls (ay_ln (ay_ln ay_l0))))) (ih _ _ _ _ _ h)
            · rw [if_neg hc16] at h
              refine ay_t_neg (pc := 82) hc16 fe_239_82 rfl ?_
              refine ay_t_loc (pc := 85) fe_239_85 rfl ?_
              refine ay_t_br (pc := 86) (pc' := 91) fe_239_86 rfl ?_
              refine ay_t_stk (pc := 91) (S' := [.int (1 + (D5 327 y4.toNatClampNeg)), .int x2, .ref 327]) fe_239_91 rfl ?_
              by_cases hb18 : x2 < 0 ∨ 25 ≤ x2.toNatClampNeg
              · rw [if_pos hb18] at h; cases h
              rw [if_neg hb18] at h
              refine ay_t_iastore (pc := 92) fe_239_92 at_327 hb18 ?_
              refine ay_t_loc (pc := 93) (L' := [some (.ref 321), some (.int x1), some (.int (x2 + (-1))), some (.int (D5 327 y4.toNatClampNeg)), some (.int (D9 327 y8.toNatClampNeg))]) fe_239_93 rfl ?_
              refine ay_t_br (pc := 96) (pc' := 35) fe_239_96 rfl ?_
              exact ay_t_less (ay_ls (ay_ls (ay_ls (ay_ln (ay_ln ay_l0))))) (ih _ _ _ _ _ h)
def fn_239_7 : Nat → Int32 → Int32 → am_DD → Option (Int32 × am_DD)
  | 0, _, _, _ => none
  | n + 1, x1, x2, D => (if 25 ≤ x2 then fn_239_35 am_F x1 ((D 322 1) - 1) D else (if x2 < 0 ∨ 25 ≤ x2.toNatClampNeg then none else fn_239_7 n x1 (x2 + 1) (am_upd D 327 x2.toNatClampNeg 0)))
set_option maxHeartbeats 2000000 in
theorem ev_239_7 : ∀ (n : Nat) (x1 x2 : Int32) (D : am_DD) (y : Int32) (Z : am_DD), fn_239_7 n x1 x2 D = some (y, Z) → ay_to 239 7 [some (.ref 321), some (.int x1), some (.int x2), none, none] [] D (.inl (some (.int y))) Z := by
  intro n
  induction n with
  | zero => intro x1 x2 D y Z h; cases h
  | succ n ih =>
    intro x1 x2 D y Z h
    rw [fn_239_7] at h
    refine ay_t_loc (pc := 7) fe_239_7 rfl ?_
    refine ay_t_stk (pc := 8) (S' := [.int 25, .int x2]) fe_239_8 rfl ?_
    by_cases hc1 : 25 ≤ x2
    · rw [if_pos hc1] at h
      refine ay_t_pos (pc := 10) hc1 fe_239_10 rfl ?_
      refine ay_t_loc (pc := 26) fe_239_26 rfl ?_
      refine ay_t_getR (pc := 27) (w := .ref 322) fe_239_27 at_321 (by decide +kernel) rfl ?_
      refine ay_t_stk (pc := 30) (S' := [.int 1, .ref 322]) fe_239_30 rfl ?_
      refine ay_t_ialoadk (pc := 31) (k := 1) fe_239_31 at_322 (by decide) (by decide) (by decide) ?_
      refine ay_t_stk (pc := 32) (S' := [.int 1, .int (D 322 1)]) fe_239_32 rfl ?_
      refine ay_t_stk (pc := 33) (S' := [.int ((D 322 1) - 1)]) fe_239_33 rfl ?_
      refine ay_t_loc (pc := 34) (L' := [some (.ref 321), some (.int x1), some (.int ((D 322 1) - 1)), none, none]) fe_239_34 rfl ?_
      exact ay_t_less (ay_ls (ay_ls (ay_ls (ay_ls (ay_ls ay_l0))))) (ev_239_35 _ _ _ _ _ _ h)
    · rw [if_neg hc1] at h
      refine ay_t_neg (pc := 10) hc1 fe_239_10 rfl ?_
      refine ay_t_loc (pc := 13) fe_239_13 rfl ?_
      refine ay_t_getR (pc := 14) (w := .ref 327) fe_239_14 at_321 (by decide +kernel) rfl ?_
      refine ay_t_loc (pc := 17) fe_239_17 rfl ?_
      refine ay_t_stk (pc := 18) (S' := [.int 0, .int x2, .ref 327]) fe_239_18 rfl ?_
      by_cases hb2 : x2 < 0 ∨ 25 ≤ x2.toNatClampNeg
      · rw [if_pos hb2] at h; cases h
      rw [if_neg hb2] at h
      refine ay_t_iastore (pc := 19) fe_239_19 at_327 hb2 ?_
      refine ay_t_loc (pc := 20) (L' := [some (.ref 321), some (.int x1), some (.int (x2 + 1)), none, none]) fe_239_20 rfl ?_
      refine ay_t_br (pc := 23) (pc' := 7) fe_239_23 rfl ?_
      exact ay_t_less (ay_ls (ay_ls (ay_ls (ay_ls (ay_ls ay_l0))))) (ih _ _ _ _ _ h)
def fn_239 (a1 : Int32) (D : am_DD) : Option (Int32 × am_DD) := fn_239_7 am_F a1 0 (am_upd D 321 7 0)
set_option maxHeartbeats 2000000 in
theorem ev_239 {a1 : Int32} {D : am_DD} {y : Int32} {Z : am_DD} (h : fn_239 a1 D = some (y, Z)) : ay_mo 239 [.ref 321, .int a1] D (.inl (some (.int y))) Z := by
  unfold fn_239 at h
  refine ay_m_of (L := [some (.ref 321), some (.int a1), none, none, none]) rfl ?_
  refine ay_t_loc (pc := 0) fe_239_0 rfl ?_
  refine ay_t_stk (pc := 1) (S' := [.int 0, .ref 321]) fe_239_1 rfl ?_
  refine ay_t_put (pc := 2) fe_239_2 at_321 (by decide +kernel) rfl rfl ?_
  refine ay_t_stk (pc := 5) (S' := [.int 0]) fe_239_5 rfl ?_
  refine ay_t_loc (pc := 6) (L' := [some (.ref 321), some (.int a1), some (.int 0), none, none]) fe_239_6 rfl ?_
  exact ay_t_less (ay_ls (ay_ls (ay_ls (ay_ls (ay_ls ay_l0))))) (ev_239_7 _ _ _ _ _ _ h)
