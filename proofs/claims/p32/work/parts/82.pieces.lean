/-! the law's pieces between its calls of cell, act and letsOut -/
theorem In_holds {B : Nat} {D : am_DD} (h : In B D) : ∃ D', fn_48 D = some (1, D') ∧ In B D' := by
  obtain ⟨A, r, hi, hb⟩ := h
  obtain ⟨D', d, r'⟩ := h_holds r hi hb
  exact ⟨D', d, A, r', hi, hb⟩
theorem In_rolls {B m : Nat} {D : am_DD} (hm : m ≤ 1000) (h : In B D) : ∃ D', fn_66 (Int32.ofNat m) D = some (1, D') ∧ In B D' := by
  obtain ⟨A, r, hi, hb⟩ := h
  obtain ⟨D', d, r'⟩ := h_rolls r hi.1 hm
  exact ⟨D', d, A, r', hi, hb⟩
def lw_L (v : Option Value) : am_LL := [some (.ref am_scr), some (.ref 0), v]
/-- a piece: from here to there, the class's cells by P -/
def lw_pc (pc : Nat) (L : am_LL) (S : List Value) (D : am_DD) (pc' : Nat) (L' : am_LL) (S' : List Value) (P : am_DD → Prop) : Prop := ay_tz 0 0 106 pc L S D (fun r D' => r = (pc', L', S') ∧ P D')
section PCS
variable {D : am_DD} {B : Nat} {x v : Int32}
set_option maxHeartbeats 4000000 in
theorem pc_a (h : rel zA D) : lw_pc 8 (lw_L none) [] D 54 (lw_L (some (.int 0))) [] (In 0) := by
  obtain ⟨D1, d1, r1⟩ := h_holds h z_inv z_bnd
  obtain ⟨D2, d2, r2⟩ := h_rolls (m := 7) r1 z_inv.1 (by omega)
  obtain ⟨D3, d3, r3⟩ := z_way r2
  have d4 := z_mean r3
  have d5 := z_note r3
  unfold lw_pc lw_L
  refine ay_q_loc (pc := 8) fe_106_8 rfl ?_
  refine ay_q_call (pc := 9) (w := some (.int 1)) fe_106_9 (ay_args [.ref 0] [] rfl rfl (Nat.le_of_ble_eq_true rfl) (Nat.le_of_ble_eq_true rfl)) rfl (ev_48 d1) ?_
  refine ay_q_neg (pc := 12) (Q := (1 : Int32) = 0) (by decide) fe_106_12 rfl ?_
  refine ay_q_loc (pc := 15) fe_106_15 rfl ?_
  refine ay_q_stk (pc := 16) (S' := [.int (Int32.ofNat 7), .ref 0]) fe_106_16 rfl ?_
  refine ay_q_call (pc := 18) (w := some (.int 1)) fe_106_18 (ay_args [.ref 0, .int (Int32.ofNat 7)] [] rfl rfl (Nat.le_of_ble_eq_true rfl) (Nat.le_of_ble_eq_true rfl)) rfl (ev_66 d2) ?_
  refine ay_q_neg (pc := 21) (Q := (1 : Int32) = 0) (by decide) fe_106_21 rfl ?_
  refine ay_q_loc (pc := 24) fe_106_24 rfl ?_
  refine ay_q_stk (pc := 25) (S' := [.int 1, .ref 0]) fe_106_25 rfl ?_
  refine ay_q_call (pc := 26) (w := some (.int 0)) fe_106_26 (ay_args [.ref 0, .int 1] [] rfl rfl (Nat.le_of_ble_eq_true rfl) (Nat.le_of_ble_eq_true rfl)) (ay_rcvV at_0 rfl) (ev_47 d3) ?_
  refine ay_q_neg (pc := 29) (Q := ¬ (0 : Int32) = 0) (not_not_intro rfl) fe_106_29 rfl ?_
  refine ay_q_loc (pc := 32) fe_106_32 rfl ?_
  refine ay_q_call (pc := 33) (w := some (.float FP.fconst0)) fe_106_33 (ay_args [.ref 0] [] rfl rfl (Nat.le_of_ble_eq_true rfl) (Nat.le_of_ble_eq_true rfl)) (ay_rcvV at_0 rfl) (ev_68 d4) ?_
  refine ay_q_stk (pc := 36) (S' := [.float FP.fconst0, .float FP.fconst0]) fe_106_36 rfl ?_
  refine ay_q_stk (pc := 37) (S' := [.int (Op.cmpValue (FP.fcmp FP.fconst0 FP.fconst0) .l)]) fe_106_37 rfl ?_
  refine ay_q_neg (pc := 38) (Q := ¬ Op.cmpValue (FP.fcmp FP.fconst0 FP.fconst0) .l = 0) (not_not_intro z_fcmp) fe_106_38 rfl ?_
  refine ay_q_loc (pc := 41) fe_106_41 rfl ?_
  refine ay_q_stk (pc := 42) (S' := [.int 2, .ref 0]) fe_106_42 rfl ?_
  refine ay_q_call (pc := 43) (w := some (.int (-1))) fe_106_43 (ay_args [.ref 0, .int 2] [] rfl rfl (Nat.le_of_ble_eq_true rfl) (Nat.le_of_ble_eq_true rfl)) (ay_rcvV at_0 rfl) (ev_29 d5) ?_
  refine ay_q_stk (pc := 46) (S' := [.int (-1), .int (-1)]) fe_106_46 rfl ?_
  refine ay_q_pos (pc := 47) (Q := (-1 : Int32) = -1) rfl fe_106_47 rfl ?_
  refine ay_q_stk (pc := 52) (S' := [.int 0]) fe_106_52 rfl ?_
  refine ay_q_loc (pc := 53) fe_106_53 rfl ?_
  exact ay_q_end (pc := 54) fe_106_54 (by decide) ⟨rfl, zA, r3, z_inv, z_bnd⟩
set_option maxHeartbeats 4000000 in
theorem pc_b1 (hx : (44 : Int32) ≤ x) : lw_pc 55 (lw_L (some (.int x))) [.int x] D 116 (lw_L (some (.int x))) [.int 88, .ref am_scr, .ref 0] (fun D' => D' = D) := by
  unfold lw_pc lw_L
  refine ay_q_stk (pc := 55) (S' := [.int 44, .int x]) fe_106_55 rfl ?_
  refine ay_q_pos (pc := 57) (Q := (44 : Int32) ≤ x) hx fe_106_57 rfl ?_
  refine ay_q_loc (pc := 112) fe_106_112 rfl ?_
  refine ay_q_loc (pc := 113) fe_106_113 rfl ?_
  refine ay_q_stk (pc := 114) (S' := [.int 88, .ref am_scr, .ref 0]) fe_106_114 rfl ?_
  exact ay_q_end (pc := 116) fe_106_116 (by decide) ⟨rfl, rfl⟩
set_option maxHeartbeats 4000000 in
theorem pc_c : lw_pc 82 (lw_L (some (.int x))) [.int v, .ref 0] D 88 (lw_L (some (.int x))) [.int (2 * x + 1), .ref am_scr, .int v, .ref 0] (fun D' => D' = D) := by
  unfold lw_pc lw_L
  refine ay_q_loc (pc := 82) fe_106_82 rfl ?_
  refine ay_q_stk (pc := 83) (S' := [.int 2, .ref am_scr, .int v, .ref 0]) fe_106_83 rfl ?_
  refine ay_q_loc (pc := 84) fe_106_84 rfl ?_
  refine ay_q_stk (pc := 85) (S' := [.int (2 * x), .ref am_scr, .int v, .ref 0]) fe_106_85 rfl ?_
  refine ay_q_stk (pc := 86) (S' := [.int 1, .int (2 * x), .ref am_scr, .int v, .ref 0]) fe_106_86 rfl ?_
  refine ay_q_stk (pc := 87) (S' := [.int (2 * x + 1), .ref am_scr, .int v, .ref 0]) fe_106_87 rfl ?_
  exact ay_q_end (pc := 88) fe_106_88 (by decide) ⟨rfl, rfl⟩
set_option maxHeartbeats 4000000 in
theorem pc_b2 (hx : ¬ (44 : Int32) ≤ x) (hx2 : ¬ (6 : Int32) ≤ x) : lw_pc 55 (lw_L (some (.int x))) [.int x] D 88 (lw_L (some (.int x))) [.int (2 * x + 1), .ref am_scr, .int (2 * (x - x / 2 * 2)), .ref 0] (fun D' => D' = D) := by
  have k := pc_c (x := x) (v := 2 * (x - x / 2 * 2)) (D := D)
  unfold lw_pc lw_L at k ⊢
  refine ay_q_stk (pc := 55) (S' := [.int 44, .int x]) fe_106_55 rfl ?_
  refine ay_q_neg (pc := 57) (Q := (44 : Int32) ≤ x) hx fe_106_57 rfl ?_
  refine ay_q_loc (pc := 60) fe_106_60 rfl ?_
  refine ay_q_loc (pc := 61) fe_106_61 rfl ?_
  refine ay_q_stk (pc := 62) (S' := [.int 6, .int x, .ref 0]) fe_106_62 rfl ?_
  refine ay_q_neg (pc := 64) (Q := (6 : Int32) ≤ x) hx2 fe_106_64 rfl ?_
  refine ay_q_stk (pc := 67) (S' := [.int 2, .ref 0]) fe_106_67 rfl ?_
  refine ay_q_loc (pc := 68) fe_106_68 rfl ?_
  refine ay_q_stk (pc := 69) (S' := [.int 2, .int x, .int 2, .ref 0]) fe_106_69 rfl ?_
  refine ay_q_stk (pc := 70) (S' := [.int (x - x / 2 * 2), .int 2, .ref 0]) fe_106_70 rfl ?_
  refine ay_q_stk (pc := 71) (S' := [.int (2 * (x - x / 2 * 2)), .ref 0]) fe_106_71 rfl ?_
  refine ay_q_br (pc := 72) (pc' := 82) fe_106_72 rfl ?_
  exact k
set_option maxHeartbeats 4000000 in
theorem pc_b3 (hx : ¬ (44 : Int32) ≤ x) (hx2 : (6 : Int32) ≤ x) : lw_pc 55 (lw_L (some (.int x))) [.int x] D 79 (lw_L (some (.int x))) [.int (2 * x), .ref am_scr, .ref 0] (fun D' => D' = D) := by
  unfold lw_pc lw_L
  refine ay_q_stk (pc := 55) (S' := [.int 44, .int x]) fe_106_55 rfl ?_
  refine ay_q_neg (pc := 57) (Q := (44 : Int32) ≤ x) hx fe_106_57 rfl ?_
  refine ay_q_loc (pc := 60) fe_106_60 rfl ?_
  refine ay_q_loc (pc := 61) fe_106_61 rfl ?_
  refine ay_q_stk (pc := 62) (S' := [.int 6, .int x, .ref 0]) fe_106_62 rfl ?_
  refine ay_q_pos (pc := 64) (Q := (6 : Int32) ≤ x) hx2 fe_106_64 rfl ?_
  refine ay_q_loc (pc := 75) fe_106_75 rfl ?_
  refine ay_q_stk (pc := 76) (S' := [.int 2, .ref am_scr, .ref 0]) fe_106_76 rfl ?_
  refine ay_q_loc (pc := 77) fe_106_77 rfl ?_
  refine ay_q_stk (pc := 78) (S' := [.int (2 * x), .ref am_scr, .ref 0]) fe_106_78 rfl ?_
  exact ay_q_end (pc := 79) fe_106_79 (by decide) ⟨rfl, rfl⟩
set_option maxHeartbeats 4000000 in
theorem pc_d (h : In B D) : lw_pc 94 (lw_L (some (.int x))) [.int 1] D 54 (lw_L (some (.int (x + 1)))) [] (In B) := by
  obtain ⟨D1, d1, r1⟩ := In_holds h
  unfold lw_pc lw_L
  refine ay_q_neg (pc := 94) (Q := (1 : Int32) = 0) (by decide) fe_106_94 rfl ?_
  refine ay_q_loc (pc := 97) fe_106_97 rfl ?_
  refine ay_q_call (pc := 98) (w := some (.int 1)) fe_106_98 (ay_args [.ref 0] [] rfl rfl (Nat.le_of_ble_eq_true rfl) (Nat.le_of_ble_eq_true rfl)) rfl (ev_48 d1) ?_
  refine ay_q_pos (pc := 101) (Q := ¬ (1 : Int32) = 0) (by decide) fe_106_101 rfl ?_
  refine ay_q_loc (pc := 106) (L' := [some (.ref am_scr), some (.ref 0), some (.int (x + 1))]) (S' := []) fe_106_106 rfl ?_
  refine ay_q_br (pc := 109) (pc' := 54) fe_106_109 rfl ?_
  exact ay_q_end (pc := 54) fe_106_54 (by decide) ⟨rfl, r1⟩
set_option maxHeartbeats 4000000 in
theorem pc_e (h : In B D) : lw_pc 119 (lw_L (some (.int x))) [.int v, .ref 0] D 136 (lw_L (some (.int x))) [.int 89, .ref am_scr, .int 1, .ref 0] (In B) := by
  obtain ⟨y, hy, -, l⟩ := low_l (v := v) (K := 1001) (by omega) (by omega)
  have l' : fn_70 v 1001 D = some (Int32.ofNat y, D) := l D
  obtain ⟨D1, d1, r1⟩ := In_rolls (m := y) (by omega) h
  unfold lw_pc lw_L
  refine ay_q_stk (pc := 119) (S' := [.int 1001, .int v, .ref 0]) fe_106_119 rfl ?_
  refine ay_q_call (pc := 122) (w := some (.int (Int32.ofNat y))) fe_106_122 (ay_args [.int v, .int 1001] [.ref 0] rfl rfl (Nat.le_of_ble_eq_true rfl) (Nat.le_of_ble_eq_true rfl)) rfl (ev_70 l') ?_
  refine ay_q_call (pc := 125) (w := some (.int 1)) fe_106_125 (ay_args [.ref 0, .int (Int32.ofNat y)] [] rfl rfl (Nat.le_of_ble_eq_true rfl) (Nat.le_of_ble_eq_true rfl)) rfl (ev_66 d1) ?_
  refine ay_q_neg (pc := 128) (Q := (1 : Int32) = 0) (by decide) fe_106_128 rfl ?_
  refine ay_q_loc (pc := 131) fe_106_131 rfl ?_
  refine ay_q_stk (pc := 132) (S' := [.int 1, .ref 0]) fe_106_132 rfl ?_
  refine ay_q_loc (pc := 133) fe_106_133 rfl ?_
  refine ay_q_stk (pc := 134) (S' := [.int 89, .ref am_scr, .int 1, .ref 0]) fe_106_134 rfl ?_
  exact ay_q_end (pc := 136) fe_106_136 (by decide) ⟨rfl, r1⟩
set_option maxHeartbeats 4000000 in
theorem pc_f : ∃ y : Nat, y < 40 ∧ lw_pc 139 (lw_L (some (.int x))) [.int v, .int 1, .ref 0] D 148 (lw_L (some (.int x))) [.int 90, .ref am_scr, .int (Int32.ofNat (1 + y)), .ref 0] (fun D' => D' = D) := by
  obtain ⟨y, hy, -, l⟩ := low_l (v := v) (K := 40) (by omega) (by omega)
  have l' : fn_70 v 40 D = some (Int32.ofNat y, D) := l D
  have e1 : (1 : Int32) + Int32.ofNat y = Int32.ofNat (1 + y) := n_add 1 y
  refine ⟨y, hy, ?_⟩
  rw [← e1]
  unfold lw_pc lw_L
  refine ay_q_stk (pc := 139) (S' := [.int 40, .int v, .int 1, .ref 0]) fe_106_139 rfl ?_
  refine ay_q_call (pc := 141) (w := some (.int (Int32.ofNat y))) fe_106_141 (ay_args [.int v, .int 40] [.int 1, .ref 0] rfl rfl (Nat.le_of_ble_eq_true rfl) (Nat.le_of_ble_eq_true rfl)) rfl (ev_70 l') ?_
  refine ay_q_stk (pc := 144) (S' := [.int (1 + Int32.ofNat y), .ref 0]) fe_106_144 rfl ?_
  refine ay_q_loc (pc := 145) fe_106_145 rfl ?_
  refine ay_q_stk (pc := 146) (S' := [.int 90, .ref am_scr, .int (1 + Int32.ofNat y), .ref 0]) fe_106_146 rfl ?_
  exact ay_q_end (pc := 148) fe_106_148 (by decide) ⟨rfl, rfl⟩
set_option maxHeartbeats 4000000 in
theorem pc_g (h : In B D) : lw_pc 154 (lw_L (some (.int x))) [.int 1] D 169 (lw_L (some (.int x))) [.int 1] (In B) := by
  obtain ⟨D1, d1, r1⟩ := In_holds h
  unfold lw_pc lw_L
  refine ay_q_neg (pc := 154) (Q := (1 : Int32) = 0) (by decide) fe_106_154 rfl ?_
  refine ay_q_loc (pc := 157) fe_106_157 rfl ?_
  refine ay_q_call (pc := 158) (w := some (.int 1)) fe_106_158 (ay_args [.ref 0] [] rfl rfl (Nat.le_of_ble_eq_true rfl) (Nat.le_of_ble_eq_true rfl)) rfl (ev_48 d1) ?_
  refine ay_q_neg (pc := 161) (Q := (1 : Int32) = 0) (by decide) fe_106_161 rfl ?_
  refine ay_q_stk (pc := 164) (S' := [.int 1]) fe_106_164 rfl ?_
  refine ay_q_br (pc := 165) (pc' := 169) fe_106_165 rfl ?_
  exact ay_q_end (pc := 169) fe_106_169 (by decide) ⟨rfl, r1⟩
end PCS
