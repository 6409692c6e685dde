/-! copying of whole states: a state lies in 32 things from its address on -/
def ru_runs : List Nat := [1, 59, 91, 123, 155, 187, 219, 255, 287]
theorem ru_at_0 {d : Nat} (h : d ∈ ru_runs) : am_at ay_SK (d) = some (.inl (7, [none, none, none, none, none, some (.ref (d + 1)), some (.ref (d + 3)), some (.ref (d + 5)), some (.ref (d + 7)), some (.ref (d + 18)), some (.ref (d + 25))])) := by
  have h2 : ru_runs.all (fun d => decide (am_at ay_SK (d) = some (.inl (7, [none, none, none, none, none, some (.ref (d + 1)), some (.ref (d + 3)), some (.ref (d + 5)), some (.ref (d + 7)), some (.ref (d + 18)), some (.ref (d + 25))])))) = true := by decide +kernel
  exact of_decide_eq_true (List.all_eq_true.mp h2 d h)
theorem ru_at_1 {d : Nat} (h : d ∈ ru_runs) : am_at ay_SK (d + 1) = some (.inl (6, [some (.ref (d + 2))])) := by
  have h2 : ru_runs.all (fun d => decide (am_at ay_SK (d + 1) = some (.inl (6, [some (.ref (d + 2))])))) = true := by decide +kernel
  exact of_decide_eq_true (List.all_eq_true.mp h2 d h)
theorem ru_at_2 {d : Nat} (h : d ∈ ru_runs) : am_at ay_SK (d + 2) = some (.inr (0, 2, [])) := by
  have h2 : ru_runs.all (fun d => decide (am_at ay_SK (d + 2) = some (.inr (0, 2, [])))) = true := by decide +kernel
  exact of_decide_eq_true (List.all_eq_true.mp h2 d h)
theorem ru_at_3 {d : Nat} (h : d ∈ ru_runs) : am_at ay_SK (d + 3) = some (.inl (6, [some (.ref (d + 4))])) := by
  have h2 : ru_runs.all (fun d => decide (am_at ay_SK (d + 3) = some (.inl (6, [some (.ref (d + 4))])))) = true := by decide +kernel
  exact of_decide_eq_true (List.all_eq_true.mp h2 d h)
theorem ru_at_4 {d : Nat} (h : d ∈ ru_runs) : am_at ay_SK (d + 4) = some (.inr (0, 5, [])) := by
  have h2 : ru_runs.all (fun d => decide (am_at ay_SK (d + 4) = some (.inr (0, 5, [])))) = true := by decide +kernel
  exact of_decide_eq_true (List.all_eq_true.mp h2 d h)
theorem ru_at_5 {d : Nat} (h : d ∈ ru_runs) : am_at ay_SK (d + 5) = some (.inl (6, [some (.ref (d + 6))])) := by
  have h2 : ru_runs.all (fun d => decide (am_at ay_SK (d + 5) = some (.inl (6, [some (.ref (d + 6))])))) = true := by decide +kernel
  exact of_decide_eq_true (List.all_eq_true.mp h2 d h)
theorem ru_at_6 {d : Nat} (h : d ∈ ru_runs) : am_at ay_SK (d + 6) = some (.inr (0, 5, [])) := by
  have h2 : ru_runs.all (fun d => decide (am_at ay_SK (d + 6) = some (.inr (0, 5, [])))) = true := by decide +kernel
  exact of_decide_eq_true (List.all_eq_true.mp h2 d h)
theorem ru_at_7 {d : Nat} (h : d ∈ ru_runs) : am_at ay_SK (d + 7) = some (.inl (1, [none, some (.ref (d + 8)), some (.ref (d + 10)), some (.ref (d + 12)), some (.ref (d + 14)), some (.ref (d + 16))])) := by
  have h2 : ru_runs.all (fun d => decide (am_at ay_SK (d + 7) = some (.inl (1, [none, some (.ref (d + 8)), some (.ref (d + 10)), some (.ref (d + 12)), some (.ref (d + 14)), some (.ref (d + 16))])))) = true := by decide +kernel
  exact of_decide_eq_true (List.all_eq_true.mp h2 d h)
theorem ru_at_8 {d : Nat} (h : d ∈ ru_runs) : am_at ay_SK (d + 8) = some (.inl (6, [some (.ref (d + 9))])) := by
  have h2 : ru_runs.all (fun d => decide (am_at ay_SK (d + 8) = some (.inl (6, [some (.ref (d + 9))])))) = true := by decide +kernel
  exact of_decide_eq_true (List.all_eq_true.mp h2 d h)
theorem ru_at_9 {d : Nat} (h : d ∈ ru_runs) : am_at ay_SK (d + 9) = some (.inr (0, 12, [])) := by
  have h2 : ru_runs.all (fun d => decide (am_at ay_SK (d + 9) = some (.inr (0, 12, [])))) = true := by decide +kernel
  exact of_decide_eq_true (List.all_eq_true.mp h2 d h)
theorem ru_at_10 {d : Nat} (h : d ∈ ru_runs) : am_at ay_SK (d + 10) = some (.inl (6, [some (.ref (d + 11))])) := by
  have h2 : ru_runs.all (fun d => decide (am_at ay_SK (d + 10) = some (.inl (6, [some (.ref (d + 11))])))) = true := by decide +kernel
  exact of_decide_eq_true (List.all_eq_true.mp h2 d h)
theorem ru_at_11 {d : Nat} (h : d ∈ ru_runs) : am_at ay_SK (d + 11) = some (.inr (0, 12, [])) := by
  have h2 : ru_runs.all (fun d => decide (am_at ay_SK (d + 11) = some (.inr (0, 12, [])))) = true := by decide +kernel
  exact of_decide_eq_true (List.all_eq_true.mp h2 d h)
theorem ru_at_12 {d : Nat} (h : d ∈ ru_runs) : am_at ay_SK (d + 12) = some (.inl (6, [some (.ref (d + 13))])) := by
  have h2 : ru_runs.all (fun d => decide (am_at ay_SK (d + 12) = some (.inl (6, [some (.ref (d + 13))])))) = true := by decide +kernel
  exact of_decide_eq_true (List.all_eq_true.mp h2 d h)
theorem ru_at_13 {d : Nat} (h : d ∈ ru_runs) : am_at ay_SK (d + 13) = some (.inr (0, 12, [])) := by
  have h2 : ru_runs.all (fun d => decide (am_at ay_SK (d + 13) = some (.inr (0, 12, [])))) = true := by decide +kernel
  exact of_decide_eq_true (List.all_eq_true.mp h2 d h)
theorem ru_at_14 {d : Nat} (h : d ∈ ru_runs) : am_at ay_SK (d + 14) = some (.inl (6, [some (.ref (d + 15))])) := by
  have h2 : ru_runs.all (fun d => decide (am_at ay_SK (d + 14) = some (.inl (6, [some (.ref (d + 15))])))) = true := by decide +kernel
  exact of_decide_eq_true (List.all_eq_true.mp h2 d h)
theorem ru_at_15 {d : Nat} (h : d ∈ ru_runs) : am_at ay_SK (d + 15) = some (.inr (0, 24, [])) := by
  have h2 : ru_runs.all (fun d => decide (am_at ay_SK (d + 15) = some (.inr (0, 24, [])))) = true := by decide +kernel
  exact of_decide_eq_true (List.all_eq_true.mp h2 d h)
theorem ru_at_16 {d : Nat} (h : d ∈ ru_runs) : am_at ay_SK (d + 16) = some (.inl (6, [some (.ref (d + 17))])) := by
  have h2 : ru_runs.all (fun d => decide (am_at ay_SK (d + 16) = some (.inl (6, [some (.ref (d + 17))])))) = true := by decide +kernel
  exact of_decide_eq_true (List.all_eq_true.mp h2 d h)
theorem ru_at_17 {d : Nat} (h : d ∈ ru_runs) : am_at ay_SK (d + 17) = some (.inr (0, 24, [])) := by
  have h2 : ru_runs.all (fun d => decide (am_at ay_SK (d + 17) = some (.inr (0, 24, [])))) = true := by decide +kernel
  exact of_decide_eq_true (List.all_eq_true.mp h2 d h)
theorem ru_at_18 {d : Nat} (h : d ∈ ru_runs) : am_at ay_SK (d + 18) = some (.inl (0, [none, some (.ref (d + 19)), some (.ref (d + 21)), some (.ref (d + 23))])) := by
  have h2 : ru_runs.all (fun d => decide (am_at ay_SK (d + 18) = some (.inl (0, [none, some (.ref (d + 19)), some (.ref (d + 21)), some (.ref (d + 23))])))) = true := by decide +kernel
  exact of_decide_eq_true (List.all_eq_true.mp h2 d h)
theorem ru_at_19 {d : Nat} (h : d ∈ ru_runs) : am_at ay_SK (d + 19) = some (.inl (6, [some (.ref (d + 20))])) := by
  have h2 : ru_runs.all (fun d => decide (am_at ay_SK (d + 19) = some (.inl (6, [some (.ref (d + 20))])))) = true := by decide +kernel
  exact of_decide_eq_true (List.all_eq_true.mp h2 d h)
theorem ru_at_20 {d : Nat} (h : d ∈ ru_runs) : am_at ay_SK (d + 20) = some (.inr (0, 40, [])) := by
  have h2 : ru_runs.all (fun d => decide (am_at ay_SK (d + 20) = some (.inr (0, 40, [])))) = true := by decide +kernel
  exact of_decide_eq_true (List.all_eq_true.mp h2 d h)
theorem ru_at_21 {d : Nat} (h : d ∈ ru_runs) : am_at ay_SK (d + 21) = some (.inl (6, [some (.ref (d + 22))])) := by
  have h2 : ru_runs.all (fun d => decide (am_at ay_SK (d + 21) = some (.inl (6, [some (.ref (d + 22))])))) = true := by decide +kernel
  exact of_decide_eq_true (List.all_eq_true.mp h2 d h)
theorem ru_at_22 {d : Nat} (h : d ∈ ru_runs) : am_at ay_SK (d + 22) = some (.inr (0, 40, [])) := by
  have h2 : ru_runs.all (fun d => decide (am_at ay_SK (d + 22) = some (.inr (0, 40, [])))) = true := by decide +kernel
  exact of_decide_eq_true (List.all_eq_true.mp h2 d h)
theorem ru_at_23 {d : Nat} (h : d ∈ ru_runs) : am_at ay_SK (d + 23) = some (.inl (6, [some (.ref (d + 24))])) := by
  have h2 : ru_runs.all (fun d => decide (am_at ay_SK (d + 23) = some (.inl (6, [some (.ref (d + 24))])))) = true := by decide +kernel
  exact of_decide_eq_true (List.all_eq_true.mp h2 d h)
theorem ru_at_24 {d : Nat} (h : d ∈ ru_runs) : am_at ay_SK (d + 24) = some (.inr (0, 40, [])) := by
  have h2 : ru_runs.all (fun d => decide (am_at ay_SK (d + 24) = some (.inr (0, 40, [])))) = true := by decide +kernel
  exact of_decide_eq_true (List.all_eq_true.mp h2 d h)
theorem ru_at_25 {d : Nat} (h : d ∈ ru_runs) : am_at ay_SK (d + 25) = some (.inl (8, [none, none, none, some (.ref (d + 26)), some (.ref (d + 28)), some (.ref (d + 30))])) := by
  have h2 : ru_runs.all (fun d => decide (am_at ay_SK (d + 25) = some (.inl (8, [none, none, none, some (.ref (d + 26)), some (.ref (d + 28)), some (.ref (d + 30))])))) = true := by decide +kernel
  exact of_decide_eq_true (List.all_eq_true.mp h2 d h)
theorem ru_at_26 {d : Nat} (h : d ∈ ru_runs) : am_at ay_SK (d + 26) = some (.inl (6, [some (.ref (d + 27))])) := by
  have h2 : ru_runs.all (fun d => decide (am_at ay_SK (d + 26) = some (.inl (6, [some (.ref (d + 27))])))) = true := by decide +kernel
  exact of_decide_eq_true (List.all_eq_true.mp h2 d h)
theorem ru_at_27 {d : Nat} (h : d ∈ ru_runs) : am_at ay_SK (d + 27) = some (.inr (0, 60, [])) := by
  have h2 : ru_runs.all (fun d => decide (am_at ay_SK (d + 27) = some (.inr (0, 60, [])))) = true := by decide +kernel
  exact of_decide_eq_true (List.all_eq_true.mp h2 d h)
theorem ru_at_28 {d : Nat} (h : d ∈ ru_runs) : am_at ay_SK (d + 28) = some (.inl (6, [some (.ref (d + 29))])) := by
  have h2 : ru_runs.all (fun d => decide (am_at ay_SK (d + 28) = some (.inl (6, [some (.ref (d + 29))])))) = true := by decide +kernel
  exact of_decide_eq_true (List.all_eq_true.mp h2 d h)
theorem ru_at_29 {d : Nat} (h : d ∈ ru_runs) : am_at ay_SK (d + 29) = some (.inr (0, 60, [])) := by
  have h2 : ru_runs.all (fun d => decide (am_at ay_SK (d + 29) = some (.inr (0, 60, [])))) = true := by decide +kernel
  exact of_decide_eq_true (List.all_eq_true.mp h2 d h)
theorem ru_at_30 {d : Nat} (h : d ∈ ru_runs) : am_at ay_SK (d + 30) = some (.inl (6, [some (.ref (d + 31))])) := by
  have h2 : ru_runs.all (fun d => decide (am_at ay_SK (d + 30) = some (.inl (6, [some (.ref (d + 31))])))) = true := by decide +kernel
  exact of_decide_eq_true (List.all_eq_true.mp h2 d h)
theorem ru_at_31 {d : Nat} (h : d ∈ ru_runs) : am_at ay_SK (d + 31) = some (.inr (0, 60, [])) := by
  have h2 : ru_runs.all (fun d => decide (am_at ay_SK (d + 31) = some (.inr (0, 60, [])))) = true := by decide +kernel
  exact of_decide_eq_true (List.all_eq_true.mp h2 d h)
def fn_74_g (d s : Nat) (D : am_DD) : Option (Int32 × am_DD) := some (0, (rw_copy (rw_copy (rw_copy (rw_copy (rw_copy (am_upd D (d + 7) 0 (D (s + 7) 0)) (s + 9) (d + 9) 12) (s + 11) (d + 11) 12) (s + 13) (d + 13) 12) (s + 15) (d + 15) 24) (s + 17) (d + 17) 24))
set_option maxHeartbeats 2000000 in
theorem ev_74_g {d s : Nat} (hd : d ∈ ru_runs) (hs : s ∈ ru_runs) {D : am_DD} {y : Int32} {Z : am_DD} (h : fn_74_g d s D = some (y, Z)) : ay_mo 74 [.ref (d + 7), .ref (s + 7)] D (.inl none) Z := by
  unfold fn_74_g at h
  refine ay_m_of (L := [some (.ref (d + 7)), some (.ref (s + 7))]) rfl ?_
  refine ay_t_loc (pc := 0) fe_74_0 rfl ?_
  refine ay_t_loc (pc := 1) fe_74_1 rfl ?_
  refine ay_t_getI (pc := 2) fe_74_2 (ru_at_7 hs) (by decide +kernel) rfl ?_
  refine ay_t_put (pc := 5) fe_74_5 (ru_at_7 hd) (by decide +kernel) rfl rfl ?_
  refine ay_t_loc (pc := 8) fe_74_8 rfl ?_
  refine ay_t_getR (pc := 9) (w := .ref (d + 8)) fe_74_9 (ru_at_7 hd) (by decide +kernel) rfl ?_
  refine ay_t_loc (pc := 12) fe_74_12 rfl ?_
  refine ay_t_getR (pc := 13) (w := .ref (s + 8)) fe_74_13 (ru_at_7 hs) (by decide +kernel) rfl ?_
  refine ay_t_call (pc := 16) (w := none) fe_74_16 (ay_args [.ref (d + 8), .ref (s + 8)] [] rfl rfl (Nat.le_of_ble_eq_true rfl) (Nat.le_of_ble_eq_true rfl)) (ay_rcvV (ru_at_8 hd) rfl) (mt_copy (ru_at_8 hd) (ru_at_9 hd) (ru_at_8 hs) (ru_at_9 hs) (by decide)) ?_
  refine ay_t_loc (pc := 19) fe_74_19 rfl ?_
  refine ay_t_getR (pc := 20) (w := .ref (d + 10)) fe_74_20 (ru_at_7 hd) (by decide +kernel) rfl ?_
  refine ay_t_loc (pc := 23) fe_74_23 rfl ?_
  refine ay_t_getR (pc := 24) (w := .ref (s + 10)) fe_74_24 (ru_at_7 hs) (by decide +kernel) rfl ?_
  refine ay_t_call (pc := 27) (w := none) fe_74_27 (ay_args [.ref (d + 10), .ref (s + 10)] [] rfl rfl (Nat.le_of_ble_eq_true rfl) (Nat.le_of_ble_eq_true rfl)) (ay_rcvV (ru_at_10 hd) rfl) (mt_copy (ru_at_10 hd) (ru_at_11 hd) (ru_at_10 hs) (ru_at_11 hs) (by decide)) ?_
  refine ay_t_loc (pc := 30) fe_74_30 rfl ?_
  refine ay_t_getR (pc := 31) (w := .ref (d + 12)) fe_74_31 (ru_at_7 hd) (by decide +kernel) rfl ?_
  refine ay_t_loc (pc := 34) fe_74_34 rfl ?_
  refine ay_t_getR (pc := 35) (w := .ref (s + 12)) fe_74_35 (ru_at_7 hs) (by decide +kernel) rfl ?_
  refine ay_t_call (pc := 38) (w := none) fe_74_38 (ay_args [.ref (d + 12), .ref (s + 12)] [] rfl rfl (Nat.le_of_ble_eq_true rfl) (Nat.le_of_ble_eq_true rfl)) (ay_rcvV (ru_at_12 hd) rfl) (mt_copy (ru_at_12 hd) (ru_at_13 hd) (ru_at_12 hs) (ru_at_13 hs) (by decide)) ?_
  refine ay_t_loc (pc := 41) fe_74_41 rfl ?_
  refine ay_t_getR (pc := 42) (w := .ref (d + 14)) fe_74_42 (ru_at_7 hd) (by decide +kernel) rfl ?_
  refine ay_t_loc (pc := 45) fe_74_45 rfl ?_
  refine ay_t_getR (pc := 46) (w := .ref (s + 14)) fe_74_46 (ru_at_7 hs) (by decide +kernel) rfl ?_
  refine ay_t_call (pc := 49) (w := none) fe_74_49 (ay_args [.ref (d + 14), .ref (s + 14)] [] rfl rfl (Nat.le_of_ble_eq_true rfl) (Nat.le_of_ble_eq_true rfl)) (ay_rcvV (ru_at_14 hd) rfl) (mt_copy (ru_at_14 hd) (ru_at_15 hd) (ru_at_14 hs) (ru_at_15 hs) (by decide)) ?_
  refine ay_t_loc (pc := 52) fe_74_52 rfl ?_
  refine ay_t_getR (pc := 53) (w := .ref (d + 16)) fe_74_53 (ru_at_7 hd) (by decide +kernel) rfl ?_
  refine ay_t_loc (pc := 56) fe_74_56 rfl ?_
  refine ay_t_getR (pc := 57) (w := .ref (s + 16)) fe_74_57 (ru_at_7 hs) (by decide +kernel) rfl ?_
  refine ay_t_call (pc := 60) (w := none) fe_74_60 (ay_args [.ref (d + 16), .ref (s + 16)] [] rfl rfl (Nat.le_of_ble_eq_true rfl) (Nat.le_of_ble_eq_true rfl)) (ay_rcvV (ru_at_16 hd) rfl) (mt_copy (ru_at_16 hd) (ru_at_17 hd) (ru_at_16 hs) (ru_at_17 hs) (by decide)) ?_
  cases h
  exact ay_t_vret fe_74_63 rfl
def fn_75_g (d s : Nat) (D : am_DD) : Option (Int32 × am_DD) := some (0, (rw_copy (rw_copy (rw_copy (am_upd D (d + 18) 0 (D (s + 18) 0)) (s + 20) (d + 20) 40) (s + 22) (d + 22) 40) (s + 24) (d + 24) 40))
set_option maxHeartbeats 2000000 in
theorem ev_75_g {d s : Nat} (hd : d ∈ ru_runs) (hs : s ∈ ru_runs) {D : am_DD} {y : Int32} {Z : am_DD} (h : fn_75_g d s D = some (y, Z)) : ay_mo 75 [.ref (d + 18), .ref (s + 18)] D (.inl none) Z := by
  unfold fn_75_g at h
  refine ay_m_of (L := [some (.ref (d + 18)), some (.ref (s + 18))]) rfl ?_
  refine ay_t_loc (pc := 0) fe_75_0 rfl ?_
  refine ay_t_loc (pc := 1) fe_75_1 rfl ?_
  refine ay_t_getI (pc := 2) fe_75_2 (ru_at_18 hs) (by decide +kernel) rfl ?_
  refine ay_t_put (pc := 5) fe_75_5 (ru_at_18 hd) (by decide +kernel) rfl rfl ?_
  refine ay_t_loc (pc := 8) fe_75_8 rfl ?_
  refine ay_t_getR (pc := 9) (w := .ref (d + 19)) fe_75_9 (ru_at_18 hd) (by decide +kernel) rfl ?_
  refine ay_t_loc (pc := 12) fe_75_12 rfl ?_
  refine ay_t_getR (pc := 13) (w := .ref (s + 19)) fe_75_13 (ru_at_18 hs) (by decide +kernel) rfl ?_
  refine ay_t_call (pc := 16) (w := none) fe_75_16 (ay_args [.ref (d + 19), .ref (s + 19)] [] rfl rfl (Nat.le_of_ble_eq_true rfl) (Nat.le_of_ble_eq_true rfl)) (ay_rcvV (ru_at_19 hd) rfl) (mt_copy (ru_at_19 hd) (ru_at_20 hd) (ru_at_19 hs) (ru_at_20 hs) (by decide)) ?_
  refine ay_t_loc (pc := 19) fe_75_19 rfl ?_
  refine ay_t_getR (pc := 20) (w := .ref (d + 21)) fe_75_20 (ru_at_18 hd) (by decide +kernel) rfl ?_
  refine ay_t_loc (pc := 23) fe_75_23 rfl ?_
  refine ay_t_getR (pc := 24) (w := .ref (s + 21)) fe_75_24 (ru_at_18 hs) (by decide +kernel) rfl ?_
  refine ay_t_call (pc := 27) (w := none) fe_75_27 (ay_args [.ref (d + 21), .ref (s + 21)] [] rfl rfl (Nat.le_of_ble_eq_true rfl) (Nat.le_of_ble_eq_true rfl)) (ay_rcvV (ru_at_21 hd) rfl) (mt_copy (ru_at_21 hd) (ru_at_22 hd) (ru_at_21 hs) (ru_at_22 hs) (by decide)) ?_
  refine ay_t_loc (pc := 30) fe_75_30 rfl ?_
  refine ay_t_getR (pc := 31) (w := .ref (d + 23)) fe_75_31 (ru_at_18 hd) (by decide +kernel) rfl ?_
  refine ay_t_loc (pc := 34) fe_75_34 rfl ?_
  refine ay_t_getR (pc := 35) (w := .ref (s + 23)) fe_75_35 (ru_at_18 hs) (by decide +kernel) rfl ?_
  refine ay_t_call (pc := 38) (w := none) fe_75_38 (ay_args [.ref (d + 23), .ref (s + 23)] [] rfl rfl (Nat.le_of_ble_eq_true rfl) (Nat.le_of_ble_eq_true rfl)) (ay_rcvV (ru_at_23 hd) rfl) (mt_copy (ru_at_23 hd) (ru_at_24 hd) (ru_at_23 hs) (ru_at_24 hs) (by decide)) ?_
  cases h
  exact ay_t_vret fe_75_41 rfl
def fn_76_g (d s : Nat) (D : am_DD) : Option (Int32 × am_DD) := some (0, (rw_copy (rw_copy (rw_copy (am_upd (am_upd (am_upd D (d + 25) 0 (D (s + 25) 0)) (d + 25) 1 ((am_upd D (d + 25) 0 (D (s + 25) 0)) (s + 25) 1)) (d + 25) 2 ((am_upd (am_upd D (d + 25) 0 (D (s + 25) 0)) (d + 25) 1 ((am_upd D (d + 25) 0 (D (s + 25) 0)) (s + 25) 1)) (s + 25) 2)) (s + 27) (d + 27) 60) (s + 29) (d + 29) 60) (s + 31) (d + 31) 60))
set_option maxHeartbeats 2000000 in
theorem ev_76_g {d s : Nat} (hd : d ∈ ru_runs) (hs : s ∈ ru_runs) {D : am_DD} {y : Int32} {Z : am_DD} (h : fn_76_g d s D = some (y, Z)) : ay_mo 76 [.ref (d + 25), .ref (s + 25)] D (.inl none) Z := by
  unfold fn_76_g at h
  refine ay_m_of (L := [some (.ref (d + 25)), some (.ref (s + 25))]) rfl ?_
  refine ay_t_loc (pc := 0) fe_76_0 rfl ?_
  refine ay_t_loc (pc := 1) fe_76_1 rfl ?_
  refine ay_t_getI (pc := 2) fe_76_2 (ru_at_25 hs) (by decide +kernel) rfl ?_
  refine ay_t_put (pc := 5) fe_76_5 (ru_at_25 hd) (by decide +kernel) rfl rfl ?_
  refine ay_t_loc (pc := 8) fe_76_8 rfl ?_
  refine ay_t_loc (pc := 9) fe_76_9 rfl ?_
  refine ay_t_getI (pc := 10) fe_76_10 (ru_at_25 hs) (by decide +kernel) rfl ?_
  refine ay_t_put (pc := 13) fe_76_13 (ru_at_25 hd) (by decide +kernel) rfl rfl ?_
  refine ay_t_loc (pc := 16) fe_76_16 rfl ?_
  refine ay_t_loc (pc := 17) fe_76_17 rfl ?_
  refine ay_t_getI (pc := 18) fe_76_18 (ru_at_25 hs) (by decide +kernel) rfl ?_
  refine ay_t_put (pc := 21) fe_76_21 (ru_at_25 hd) (by decide +kernel) rfl rfl ?_
  refine ay_t_loc (pc := 24) fe_76_24 rfl ?_
  refine ay_t_getR (pc := 25) (w := .ref (d + 26)) fe_76_25 (ru_at_25 hd) (by decide +kernel) rfl ?_
  refine ay_t_loc (pc := 28) fe_76_28 rfl ?_
  refine ay_t_getR (pc := 29) (w := .ref (s + 26)) fe_76_29 (ru_at_25 hs) (by decide +kernel) rfl ?_
  refine ay_t_call (pc := 32) (w := none) fe_76_32 (ay_args [.ref (d + 26), .ref (s + 26)] [] rfl rfl (Nat.le_of_ble_eq_true rfl) (Nat.le_of_ble_eq_true rfl)) (ay_rcvV (ru_at_26 hd) rfl) (mt_copy (ru_at_26 hd) (ru_at_27 hd) (ru_at_26 hs) (ru_at_27 hs) (by decide)) ?_
  refine ay_t_loc (pc := 35) fe_76_35 rfl ?_
  refine ay_t_getR (pc := 36) (w := .ref (d + 28)) fe_76_36 (ru_at_25 hd) (by decide +kernel) rfl ?_
  refine ay_t_loc (pc := 39) fe_76_39 rfl ?_
  refine ay_t_getR (pc := 40) (w := .ref (s + 28)) fe_76_40 (ru_at_25 hs) (by decide +kernel) rfl ?_
  refine ay_t_call (pc := 43) (w := none) fe_76_43 (ay_args [.ref (d + 28), .ref (s + 28)] [] rfl rfl (Nat.le_of_ble_eq_true rfl) (Nat.le_of_ble_eq_true rfl)) (ay_rcvV (ru_at_28 hd) rfl) (mt_copy (ru_at_28 hd) (ru_at_29 hd) (ru_at_28 hs) (ru_at_29 hs) (by decide)) ?_
  refine ay_t_loc (pc := 46) fe_76_46 rfl ?_
  refine ay_t_getR (pc := 47) (w := .ref (d + 30)) fe_76_47 (ru_at_25 hd) (by decide +kernel) rfl ?_
  refine ay_t_loc (pc := 50) fe_76_50 rfl ?_
  refine ay_t_getR (pc := 51) (w := .ref (s + 30)) fe_76_51 (ru_at_25 hs) (by decide +kernel) rfl ?_
  refine ay_t_call (pc := 54) (w := none) fe_76_54 (ay_args [.ref (d + 30), .ref (s + 30)] [] rfl rfl (Nat.le_of_ble_eq_true rfl) (Nat.le_of_ble_eq_true rfl)) (ay_rcvV (ru_at_30 hd) rfl) (mt_copy (ru_at_30 hd) (ru_at_31 hd) (ru_at_30 hs) (ru_at_31 hs) (by decide)) ?_
  cases h
  exact ay_t_vret fe_76_57 rfl
def fn_77_g (d s : Nat) (D : am_DD) : Option (Int32 × am_DD) := (match fn_74_g d s (rw_copy (rw_copy (rw_copy (am_upd (am_upd (am_upd (am_upd (am_upd D d 0 (D s 0)) d 1 ((am_upd D d 0 (D s 0)) s 1)) d 2 ((am_upd (am_upd D d 0 (D s 0)) d 1 ((am_upd D d 0 (D s 0)) s 1)) s 2)) d 3 ((am_upd (am_upd (am_upd D d 0 (D s 0)) d 1 ((am_upd D d 0 (D s 0)) s 1)) d 2 ((am_upd (am_upd D d 0 (D s 0)) d 1 ((am_upd D d 0 (D s 0)) s 1)) s 2)) s 3)) d 4 ((am_upd (am_upd (am_upd (am_upd D d 0 (D s 0)) d 1 ((am_upd D d 0 (D s 0)) s 1)) d 2 ((am_upd (am_upd D d 0 (D s 0)) d 1 ((am_upd D d 0 (D s 0)) s 1)) s 2)) d 3 ((am_upd (am_upd (am_upd D d 0 (D s 0)) d 1 ((am_upd D d 0 (D s 0)) s 1)) d 2 ((am_upd (am_upd D d 0 (D s 0)) d 1 ((am_upd D d 0 (D s 0)) s 1)) s 2)) s 3)) s 4)) (s + 2) (d + 2) 2) (s + 4) (d + 4) 5) (s + 6) (d + 6) 5) with | none => none | some (y1, D2) => (match fn_75_g d s D2 with | none => none | some (y4, D5) => (match fn_76_g d s D5 with | none => none | some (y7, D8) => some (0, D8))))
set_option maxHeartbeats 2000000 in
theorem ev_77_g {d s : Nat} (hd : d ∈ ru_runs) (hs : s ∈ ru_runs) {D : am_DD} {y : Int32} {Z : am_DD} (h : fn_77_g d s D = some (y, Z)) : ay_mo 77 [.ref d, .ref s] D (.inl none) Z := by
  unfold fn_77_g at h
  refine ay_m_of (L := [some (.ref d), some (.ref s)]) rfl ?_
  refine ay_t_loc (pc := 0) fe_77_0 rfl ?_
  refine ay_t_loc (pc := 1) fe_77_1 rfl ?_
  refine ay_t_getI (pc := 2) fe_77_2 (ru_at_0 hs) (by decide +kernel) rfl ?_
  refine ay_t_put (pc := 5) fe_77_5 (ru_at_0 hd) (by decide +kernel) rfl rfl ?_
  refine ay_t_loc (pc := 8) fe_77_8 rfl ?_
  refine ay_t_loc (pc := 9) fe_77_9 rfl ?_
  refine ay_t_getI (pc := 10) fe_77_10 (ru_at_0 hs) (by decide +kernel) rfl ?_
  refine ay_t_put (pc := 13) fe_77_13 (ru_at_0 hd) (by decide +kernel) rfl rfl ?_
  refine ay_t_loc (pc := 16) fe_77_16 rfl ?_
  refine ay_t_loc (pc := 17) fe_77_17 rfl ?_
  refine ay_t_getI (pc := 18) fe_77_18 (ru_at_0 hs) (by decide +kernel) rfl ?_
  refine ay_t_put (pc := 21) fe_77_21 (ru_at_0 hd) (by decide +kernel) rfl rfl ?_
  refine ay_t_loc (pc := 24) fe_77_24 rfl ?_
  refine ay_t_loc (pc := 25) fe_77_25 rfl ?_
  refine ay_t_getI (pc := 26) fe_77_26 (ru_at_0 hs) (by decide +kernel) rfl ?_
  refine ay_t_put (pc := 29) fe_77_29 (ru_at_0 hd) (by decide +kernel) rfl rfl ?_
  refine ay_t_loc (pc := 32) fe_77_32 rfl ?_
  refine ay_t_loc (pc := 33) fe_77_33 rfl ?_
  refine ay_t_getI (pc := 34) fe_77_34 (ru_at_0 hs) (by decide +kernel) rfl ?_
  refine ay_t_put (pc := 37) fe_77_37 (ru_at_0 hd) (by decide +kernel) rfl rfl ?_
  refine ay_t_loc (pc := 40) fe_77_40 rfl ?_
  refine ay_t_getR (pc := 41) (w := .ref (d + 1)) fe_77_41 (ru_at_0 hd) (by decide +kernel) rfl ?_
  refine ay_t_loc (pc := 44) fe_77_44 rfl ?_
  refine ay_t_getR (pc := 45) (w := .ref (s + 1)) fe_77_45 (ru_at_0 hs) (by decide +kernel) rfl ?_
  refine ay_t_call (pc := 48) (w := none) fe_77_48 (ay_args [.ref (d + 1), .ref (s + 1)] [] rfl rfl (Nat.le_of_ble_eq_true rfl) (Nat.le_of_ble_eq_true rfl)) (ay_rcvV (ru_at_1 hd) rfl) (mt_copy (ru_at_1 hd) (ru_at_2 hd) (ru_at_1 hs) (ru_at_2 hs) (by decide)) ?_
  refine ay_t_loc (pc := 51) fe_77_51 rfl ?_
  refine ay_t_getR (pc := 52) (w := .ref (d + 3)) fe_77_52 (ru_at_0 hd) (by decide +kernel) rfl ?_
  refine ay_t_loc (pc := 55) fe_77_55 rfl ?_
  refine ay_t_getR (pc := 56) (w := .ref (s + 3)) fe_77_56 (ru_at_0 hs) (by decide +kernel) rfl ?_
  refine ay_t_call (pc := 59) (w := none) fe_77_59 (ay_args [.ref (d + 3), .ref (s + 3)] [] rfl rfl (Nat.le_of_ble_eq_true rfl) (Nat.le_of_ble_eq_true rfl)) (ay_rcvV (ru_at_3 hd) rfl) (mt_copy (ru_at_3 hd) (ru_at_4 hd) (ru_at_3 hs) (ru_at_4 hs) (by decide)) ?_
  refine ay_t_loc (pc := 62) fe_77_62 rfl ?_
  refine ay_t_getR (pc := 63) (w := .ref (d + 5)) fe_77_63 (ru_at_0 hd) (by decide +kernel) rfl ?_
  refine ay_t_loc (pc := 66) fe_77_66 rfl ?_
  refine ay_t_getR (pc := 67) (w := .ref (s + 5)) fe_77_67 (ru_at_0 hs) (by decide +kernel) rfl ?_
  refine ay_t_call (pc := 70) (w := none) fe_77_70 (ay_args [.ref (d + 5), .ref (s + 5)] [] rfl rfl (Nat.le_of_ble_eq_true rfl) (Nat.le_of_ble_eq_true rfl)) (ay_rcvV (ru_at_5 hd) rfl) (mt_copy (ru_at_5 hd) (ru_at_6 hd) (ru_at_5 hs) (ru_at_6 hs) (by decide)) ?_
  refine ay_t_loc (pc := 73) fe_77_73 rfl ?_
  refine ay_t_getR (pc := 74) (w := .ref (d + 7)) fe_77_74 (ru_at_0 hd) (by decide +kernel) rfl ?_
  refine ay_t_loc (pc := 77) fe_77_77 rfl ?_
  refine ay_t_getR (pc := 78) (w := .ref (s + 7)) fe_77_78 (ru_at_0 hs) (by decide +kernel) rfl ?_
  cases hk3 : fn_74_g d s (rw_copy (rw_copy (rw_copy (am_upd (am_upd (am_upd (am_upd (am_upd D d 0 (D s 0)) d 1 ((am_upd D d 0 (D s 0)) s 1)) d 2 ((am_upd (am_upd D d 0 (D s 0)) d 1 ((am_upd D d 0 (D s 0)) s 1)) s 2)) d 3 ((am_upd (am_upd (am_upd D d 0 (D s 0)) d 1 ((am_upd D d 0 (D s 0)) s 1)) d 2 ((am_upd (am_upd D d 0 (D s 0)) d 1 ((am_upd D d 0 (D s 0)) s 1)) s 2)) s 3)) d 4 ((am_upd (am_upd (am_upd (am_upd D d 0 (D s 0)) d 1 ((am_upd D d 0 (D s 0)) s 1)) d 2 ((am_upd (am_upd D d 0 (D s 0)) d 1 ((am_upd D d 0 (D s 0)) s 1)) s 2)) d 3 ((am_upd (am_upd (am_upd D d 0 (D s 0)) d 1 ((am_upd D d 0 (D s 0)) s 1)) d 2 ((am_upd (am_upd D d 0 (D s 0)) d 1 ((am_upd D d 0 (D s 0)) s 1)) s 2)) s 3)) s 4)) (s + 2) (d + 2) 2) (s + 4) (d + 4) 5) (s + 6) (d + 6) 5) with
  | none => rw [hk3] at h; cases h
  | some z =>
    obtain ⟨y1, D2⟩ := z
    rw [hk3] at h
    dsimp only at h
    refine ay_t_call (pc := 81) (w := none) fe_77_81 (ay_args [.ref (d + 7), .ref (s + 7)] [] rfl rfl (Nat.le_of_ble_eq_true rfl) (Nat.le_of_ble_eq_true rfl)) (ay_rcvV (ru_at_7 hd) rfl) (ev_74_g hd hs hk3) ?_
    refine ay_t_loc (pc := 84) fe_77_84 rfl ?_
    refine ay_t_getR (pc := 85) (w := .ref (d + 18)) fe_77_85 (ru_at_0 hd) (by decide +kernel) rfl ?_
    refine ay_t_loc (pc := 88) fe_77_88 rfl ?_
    refine ay_t_getR (pc := 89) (w := .ref (s + 18)) fe_77_89 (ru_at_0 hs) (by decide +kernel) rfl ?_
    cases hk6 : fn_75_g d s D2 with
    | none => rw [hk6] at h; cases h
    | some z =>
      obtain ⟨y4, D5⟩ := z
      rw [hk6] at h
      dsimp only at h
      refine ay_t_call (pc := 92) (w := none) fe_77_92 (ay_args [.ref (d + 18), .ref (s + 18)] [] rfl rfl (Nat.le_of_ble_eq_true rfl) (Nat.le_of_ble_eq_true rfl)) (ay_rcvV (ru_at_18 hd) rfl) (ev_75_g hd hs hk6) ?_
      refine ay_t_loc (pc := 95) fe_77_95 rfl ?_
      refine ay_t_getR (pc := 96) (w := .ref (d + 25)) fe_77_96 (ru_at_0 hd) (by decide +kernel) rfl ?_
      refine ay_t_loc (pc := 99) fe_77_99 rfl ?_
      refine ay_t_getR (pc := 100) (w := .ref (s + 25)) fe_77_100 (ru_at_0 hs) (by decide +kernel) rfl ?_
      cases hk9 : fn_76_g d s D5 with
      | none => rw [hk9] at h; cases h
      | some z =>
        obtain ⟨y7, D8⟩ := z
        rw [hk9] at h
        dsimp only at h
        refine ay_t_call (pc := 103) (w := none) fe_77_103 (ay_args [.ref (d + 25), .ref (s + 25)] [] rfl rfl (Nat.le_of_ble_eq_true rfl) (Nat.le_of_ble_eq_true rfl)) (ay_rcvV (ru_at_25 hd) rfl) (ev_76_g hd hs hk9) ?_
        cases h
        exact ay_t_vret fe_77_106 rfl
/-! the copy as one picture -/
def ru_cpf (s d : Nat) : List (Nat × Nat) → am_DD → am_DD
  | [], D => D
  | e :: l, D => ru_cpf s d l (rw_copy D (s + e.1) (d + e.1) e.2)
def ru_lay : List (Nat × Nat) := [(0, 5), (2, 2), (4, 5), (6, 5), (7, 1), (9, 12), (11, 12), (13, 12), (15, 24), (17, 24), (18, 1), (20, 40), (22, 40), (24, 40), (25, 3), (27, 60), (29, 60), (31, 60)]
theorem ru_i1 (D : am_DD) (p q : Nat) : am_upd D q 0 (D p 0) = rw_copy D p q 1 := by
  funext a k
  unfold am_upd rw_copy
  by_cases ha : a = q
  · by_cases hk : k = 0
    · subst hk; simp [ha]
    · rw [if_pos ha, if_neg hk, if_neg (fun h => by omega)]
  · rw [if_neg ha, if_neg (fun h => ha h.1)]
theorem ru_is (D : am_DD) {p q : Nat} (n : Nat) (h : p ≠ q) : am_upd (rw_copy D p q n) q n (rw_copy D p q n p n) = rw_copy D p q (n + 1) := by
  have e : rw_copy D p q n p n = D p n := by
    unfold rw_copy
    rw [if_neg (fun z => h z.1)]
  rw [e]
  funext a k
  unfold am_upd rw_copy
  by_cases ha : a = q
  · by_cases hk : k = n
    · subst hk; rw [if_pos ha, if_pos rfl, if_pos ⟨ha, by omega⟩]
    · rw [if_pos ha, if_neg hk]
      by_cases hl : k < n
      · rw [if_pos ⟨ha, hl⟩, if_pos ⟨ha, by omega⟩]
      · rw [if_neg (fun z => hl z.2), if_neg (fun z => by omega)]
  · rw [if_neg ha, if_neg (fun z => ha z.1), if_neg (fun z => ha z.1)]
theorem ru_20 {s d : Nat} (h : s ≠ d) (D : am_DD) : fn_77_g d s D = some (0, ru_cpf s d ru_lay D) := by
  have h25 : s + 25 ≠ d + 25 := by omega
  simp only [fn_77_g, fn_74_g, fn_75_g, fn_76_g, ru_i1, ru_is _ _ h, ru_is _ _ h25]
  rfl
def ru_hit (d a k : Nat) (l : List (Nat × Nat)) : Bool := l.any (fun e => decide (a = d + e.1) && decide (k < e.2))
theorem ru_cpf_at {s d : Nat} (hsd : s + 32 ≤ d ∨ d + 32 ≤ s) : ∀ (l : List (Nat × Nat)), (∀ e ∈ l, e.1 < 32) → ∀ (D : am_DD) (a k : Nat), ru_cpf s d l D a k = if ru_hit d a k l = true then D (s + (a - d)) k else D a k := by
  intro l
  induction l with
  | nil => intro _ D a k; rfl
  | cons e l ih =>
    intro hl D a k
    have he : e.1 < 32 := hl e List.mem_cons_self
    unfold ru_cpf
    rw [ih (fun x hx => hl x (List.mem_cons_of_mem _ hx))]
    unfold ru_hit
    rw [List.any_cons]
    by_cases h1 : l.any (fun e => decide (a = d + e.1) && decide (k < e.2)) = true
    · rw [if_pos h1, h1, Bool.or_true, if_pos rfl]
      obtain ⟨x, hx, h2⟩ := List.any_eq_true.mp h1
      simp only [Bool.and_eq_true, decide_eq_true_eq] at h2
      have hx2 := hl x (List.mem_cons_of_mem _ hx)
      unfold rw_copy
      rw [if_neg (fun z => by omega)]
    · rw [if_neg h1, Bool.eq_false_iff.mpr h1, Bool.or_false]
      unfold rw_copy
      by_cases h2 : a = d + e.1 ∧ k < e.2
      · rw [if_pos h2, if_pos (by rw [decide_eq_true h2.1, decide_eq_true h2.2]; rfl), show s + (a - d) = s + e.1 by omega]
      · rw [if_neg h2, if_neg (fun z => h2 (by simpa using z))]
/-! a state is put on a shelf -/
theorem ay_look_def {pc pc' a : Nat} {x : Int32} {d : Int} {ps : Array (Int × Int)} {S : List Value} (h : Op.lookupswitch.offset ps.toList d x.toInt = d) (hj : am_jump pc d S = some (pc', S)) : am_br (.lookupswitch d ps) a pc (.int x :: S) = some (pc', S) := by
  show am_jump pc (Op.lookupswitch.offset ps.toList d x.toInt) S = some (pc', S)
  rw [h, hj]
theorem ay_t_aald {i pc len a b u n p q : Nat} {x : Int32} {rs : List (Option Nat)} {L : am_LL} {S : List Value} {D D2 : am_DD} {o : Option Value ⊕ Nat} (hf : am_fetch i pc = some (.aaload, len, 3, a, b)) (hat : am_at ay_SK u = some (.inr (3, n, rs))) (hb : ¬ (x < 0 ∨ n ≤ x.toNatClampNeg)) (hx : x.toNatClampNeg = p) (hr : rs.getD p none = some q) (kk : ay_to i (pc + len) L (.ref q :: S) D o D2) : ay_to i pc L (.int x :: .ref u :: S) D o D2 := by
  subst hx
  exact ay_t_rd hf (fun scr => by simp only [am_rd, hat, if_neg hb, hr]) kk
section RUS
variable {t u f fq n q p : Nat} {rs : List (Option Nat)} {D Z : am_DD} {y : Int32}
set_option maxHeartbeats 2000000 in
theorem mt_store_g (ht : am_at ay_SK t = some (.inl (9, [some (.ref u), some (.ref f)]))) (hu : am_at ay_SK u = some (.inr (3, n, rs))) (hf : am_at ay_SK f = some (.inl (6, [some (.ref fq)]))) (hfq : am_at ay_SK fq = some (.inr (0, n, []))) (hn : n < 2 ^ 31) (hp : p < n) (hq : rs.getD p none = some q) (hd : q ∈ ru_runs) (h : fn_77_g q 1 D = some (y, Z)) :
    ay_mo 78 [.ref t, .int (Int32.ofNat p), .ref 1] D (.inl none) (rw_put Z fq n (Int32.ofNat p) 1) := by
  have h0 : ¬ Int32.ofNat p < 0 := nI_pos (n := p) (by omega)
  have h1 : ¬ Int32.ofNat n ≤ Int32.ofNat p := nI_not_le hp hn
  have h2 : ¬ (Int32.ofNat p < 0 ∨ n ≤ (Int32.ofNat p).toNatClampNeg) := rw_in hn h0 h1
  have hc : (Int32.ofNat p).toNatClampNeg = p := nI_clamp (by omega)
  have hm : (1 : Nat) ∈ ru_runs := by decide
  refine ay_m_of (L := [some (.ref t), some (.int (Int32.ofNat p)), some (.ref 1)]) rfl ?_
  refine ay_t_loc (pc := 0) fe_78_0 rfl ?_
  refine ay_t_neg (pc := 1) h0 fe_78_1 rfl ?_
  refine ay_t_loc (pc := 4) fe_78_4 rfl ?_
  refine ay_t_loc (pc := 5) fe_78_5 rfl ?_
  refine ay_t_getR (pc := 6) (w := .ref u) fe_78_6 ht (by decide +kernel) rfl ?_
  refine ay_t_alen (pc := 9) fe_78_9 hu ?_
  refine ay_t_neg (pc := 10) h1 fe_78_10 rfl ?_
  refine ay_t_loc (pc := 13) fe_78_13 rfl ?_
  refine ay_t_getR (pc := 14) (w := .ref u) fe_78_14 ht (by decide +kernel) rfl ?_
  refine ay_t_loc (pc := 17) fe_78_17 rfl ?_
  refine ay_t_aald (pc := 18) fe_78_18 hu h2 hc hq ?_
  refine ay_t_br (pc := 19) (pc' := 22) fe_78_19 rfl ?_
  refine ay_t_loc (pc := 22) fe_78_22 rfl ?_
  refine ay_t_getR (pc := 23) (w := .ref u) fe_78_23 ht (by decide +kernel) rfl ?_
  refine ay_t_loc (pc := 26) fe_78_26 rfl ?_
  refine ay_t_aald (pc := 27) fe_78_27 hu h2 hc hq ?_
  refine ay_t_loc (pc := 28) fe_78_28 rfl ?_
  refine ay_t_call (pc := 29) (w := none) fe_78_29 (ay_args [.ref q, .ref 1] [] rfl rfl (Nat.le_of_ble_eq_true rfl) (Nat.le_of_ble_eq_true rfl)) (ay_rcvV (ru_at_0 hd) rfl) (ev_77_g hd hm h) ?_
  refine ay_t_loc (pc := 32) fe_78_32 rfl ?_
  refine ay_t_getR (pc := 33) (w := .ref f) fe_78_33 ht (by decide +kernel) rfl ?_
  refine ay_t_loc (pc := 36) fe_78_36 rfl ?_
  refine ay_t_stk (pc := 37) (S' := [.int 1, .int (Int32.ofNat p), .ref f]) fe_78_37 rfl ?_
  refine ay_t_call (pc := 38) (w := none) fe_78_38 (ay_args [.ref f, .int (Int32.ofNat p), .int 1] [] rfl rfl (Nat.le_of_ble_eq_true rfl) (Nat.le_of_ble_eq_true rfl)) (ay_rcvV hf rfl) (mt_put hf hfq hn) ?_
  exact ay_t_vret fe_78_41 rfl
end RUS
theorem sh_ofNat {x : Int32} (h : ¬ x < 0) : x = Int32.ofNat x.toNatClampNeg := by
  have e2 : (0 : Int) ≤ x.toInt := by
    have := Int32.not_lt.mp h
    simpa using Int32.le_iff_toInt_le.mp this
  apply Int32.toInt_inj.mp
  have e1 : x.toInt < 2 ^ 31 := Int32.toInt_lt x
  have e3 : (Int32.ofNat x.toNatClampNeg).toInt = (x.toNatClampNeg : Int) := nI_toInt (show x.toInt.toNat < 2 ^ 31 by omega)
  rw [e3]
  show x.toInt = (x.toInt.toNat : Int)
  omega
def sh_store (b0 fq n : Nat) (x : Int32) (D : am_DD) : Option am_DD := if x < 0 then none else if n ≤ x.toNatClampNeg then none else some (rw_put (ru_cpf 1 (b0 + 32 * x.toNatClampNeg) ru_lay D) fq n x 1)
abbrev sh_store_57 (x : Int32) (D : am_DD) : Option am_DD := sh_store 59 252 6 x D
abbrev sh_store_253 (x : Int32) (D : am_DD) : Option am_DD := sh_store 255 320 2 x D
theorem sh_in6 : ∀ p, p < 6 → [some 59, some 91, some 123, some 155, some 187, some 219].getD p none = some (59 + 32 * p) ∧ 59 + 32 * p ∈ ru_runs := by decide +kernel
theorem sh_in2 : ∀ p, p < 2 → [some 255, some 287].getD p none = some (255 + 32 * p) ∧ 255 + 32 * p ∈ ru_runs := by decide +kernel
theorem mt_sh_store_57 {x : Int32} {D Z : am_DD} (h : sh_store_57 x D = some Z) : ay_mo 78 [.ref 57, .int x, .ref 1] D (.inl none) Z := by
  unfold sh_store_57 sh_store at h
  by_cases h0 : x < 0
  · rw [if_pos h0] at h; cases h
  · rw [if_neg h0] at h
    by_cases h1 : 6 ≤ x.toNatClampNeg
    · rw [if_pos h1] at h; cases h
    · rw [if_neg h1] at h
      cases h
      obtain ⟨g1, g2⟩ := sh_in6 _ (Nat.not_le.mp h1)
      have h9 := mt_store_g at_57 at_58 at_251 at_252 (by decide) (Nat.not_le.mp h1) g1 g2 (ru_20 (by omega) D)
      rw [← sh_ofNat h0] at h9
      exact h9
theorem mt_sh_store_253 {x : Int32} {D Z : am_DD} (h : sh_store_253 x D = some Z) : ay_mo 78 [.ref 253, .int x, .ref 1] D (.inl none) Z := by
  unfold sh_store_253 sh_store at h
  by_cases h0 : x < 0
  · rw [if_pos h0] at h; cases h
  · rw [if_neg h0] at h
    by_cases h1 : 2 ≤ x.toNatClampNeg
    · rw [if_pos h1] at h; cases h
    · rw [if_neg h1] at h
      cases h
      obtain ⟨g1, g2⟩ := sh_in2 _ (Nat.not_le.mp h1)
      have h9 := mt_store_g at_253 at_254 at_319 at_320 (by decide) (Nat.not_le.mp h1) g1 g2 (ru_20 (by omega) D)
      rw [← sh_ofNat h0] at h9
      exact h9

