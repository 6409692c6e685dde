/-! act's frame: a run that may catch one exception, and that comes to its end or to the call of letsOut -/
def ay_tz (C N : Nat) (i pc : Nat) (L : am_LL) (S : List Value) (D : am_DD) (P : am_R → am_DD → Prop) : Prop := ∀ scr : Option Nat, ∃ r D' c s, c ≤ C ∧ s ≤ N ∧ ay_ev scr i pc L S D r D' c s ∧ P r D'
def ay_mq (a : Nat) (As : List Value) (D : am_DD) (v : Option Value) (D' : am_DD) : Prop := ∀ scr : Option Nat, ∃ r c s, c ≤ 1 ∧ s ≤ 6 ∧ ay_ev scr a 0 (am_L0 a As) [] D r D' c s ∧ am_end a r = some (.inl v)
/-- what act comes to: an answer, or the call of letsOut with these numbers -/
def ay_ap (x : (Int32 × am_DD) ⊕ (Int32 × Int32 × am_DD)) (r : am_R) (D' : am_DD) : Prop := match x with
  | .inl (y, Z) => Z = D' ∧ am_end 105 r = some (.inl (some (.int y)))
  | .inr (m, w, Z) => Z = D' ∧ r.1 = 658 ∧ r.2.2 = [.int w, .int m, .ref 0]
theorem ay_ap_le {x : (Int32 × am_DD) ⊕ (Int32 × Int32 × am_DD)} {r : am_R} {L : am_LL} {D' : am_DD} (h : ay_ap x r D') : ay_ap x (r.1, L, r.2.2) D' := by
  cases x with
  | inl z => exact h
  | inr z => exact h
section AYQ
variable {C N i pc len g a b pc' : Nat} {ins : Instr} {L L' : am_LL} {S S' S1 As : List Value} {D D' D1 D2 : am_DD} {P : am_R → am_DD → Prop} {scr : Option Nat} {r : am_R} {v : Option Value}
theorem ay_q_stk (hf : am_fetch i pc = some (ins, len, 0, a, b)) (h : am_stk ins S = some S') (kk : ay_tz C N i (pc + len) L S' D P) : ay_tz C N i pc L S D P := fun scr => let ⟨r, D', c, s, h1, h2, h3, h4⟩ := kk scr; ⟨r, D', c, s, h1, h2, ay_e_stk hf h h3, h4⟩
theorem ay_q_loc (hf : am_fetch i pc = some (ins, len, 1, a, b)) (h : am_loc ins L S = some (L', S')) (kk : ay_tz C N i (pc + len) L' S' D P) : ay_tz C N i pc L S D P := fun scr => let ⟨r, D', c, s, h1, h2, h3, h4⟩ := kk scr; ⟨r, D', c, s, h1, h2, ay_e_loc hf h h3, h4⟩
theorem ay_q_br (hf : am_fetch i pc = some (ins, len, 2, a, b)) (h : am_br ins a pc S = some (pc', S')) (kk : ay_tz C N i pc' L S' D P) : ay_tz C N i pc L S D P := fun scr => let ⟨r, D', c, s, h1, h2, h3, h4⟩ := kk scr; ⟨r, D', c, s, h1, h2, ay_e_br hf h h3, h4⟩
theorem ay_q_call {w : Option Value} (hf : am_fetch i pc = some (ins, len, 7, a, b)) (hA : am_args a S = some (As, S1)) (hr : am_rcv ins a As ay_SK = true) (hm : ay_mo a As D (.inl w) D1) (kk : ay_tz C N i (pc + 3) L (w.toList ++ S1) D1 P) : ay_tz C N i pc L S D P := fun scr => let ⟨r, D', c, s, h1, h2, h3, h4⟩ := kk scr; ⟨r, D', c, s, h1, h2, ay_e_call hf hA hr hm h3, h4⟩
theorem ay_q_callC {w : Option Value} (hf : am_fetch i pc = some (ins, len, 7, a, b)) (hA : am_args a S = some (As, S1)) (hr : am_rcv ins a As ay_SK = true) (hm : ay_mq a As D w D1) (kk : ay_tz 0 0 i (pc + 3) L (w.toList ++ S1) D1 P) : ay_tz 1 6 i pc L S D P := fun scr => by
  obtain ⟨r, D', c, s, h1, h2, ⟨n2, h3⟩, h4⟩ := kk scr
  obtain ⟨r1, c1, s1, g1, g2, ⟨n1, g3⟩, g4⟩ := hm scr
  have k3 := ay_mono n1 n2 _ _ _ _ _ _ _ _ _ g3
  have k4 := ay_mono n2 n1 _ _ _ _ _ _ _ _ _ h3
  rw [Nat.add_comm] at k4
  refine ⟨r, D', c1 + c, s1 + s, by omega, by omega, ⟨(n1 + n2) + 1, ?_⟩, h4⟩
  rw [am_run, hf]
  simp only [show ¬ 8 ≤ 7 by decide, if_false, if_true, hA, hr, k3, g4, k4]
  rfl
theorem ay_q_pos {Q : Prop} [Decidable Q] (hQ : Q) (hf : am_fetch i pc = some (ins, len, 2, a, b)) (h : am_br ins a pc S = am_go (decide Q) a pc S') (k1 : ay_tz C N i a L S' D P) : ay_tz C N i pc L S D P := ay_q_br hf (by rw [h, decide_eq_true hQ]; rfl) k1
theorem ay_q_neg {Q : Prop} [Decidable Q] (hQ : ¬ Q) (hf : am_fetch i pc = some (ins, len, 2, a, b)) (h : am_br ins a pc S = am_go (decide Q) a pc S') (k1 : ay_tz C N i (pc + 3) L S' D P) : ay_tz C N i pc L S D P := ay_q_br hf (by rw [h, decide_eq_false hQ]; rfl) k1
theorem ay_q_end (hf : am_fetch i pc = some (ins, len, g, a, b)) (h8 : 8 ≤ g) (hP : P (pc, L, S) D) : ay_tz C N i pc L S D P := fun _ => ⟨_, D, 0, 0, Nat.zero_le _, Nat.zero_le _, ay_e_end hf h8, hP⟩
theorem ay_q_less {P : (Int32 × am_DD) ⊕ (Int32 × Int32 × am_DD)} (h : ay_le L L') (kk : ay_tz C N i pc L S D (ay_ap P)) : ay_tz C N i pc L' S D (ay_ap P) := fun scr => by
  obtain ⟨r, D', c, s, h1, h2, ⟨n, hn⟩, h4⟩ := kk scr
  obtain ⟨L2, g1, -⟩ := ay_le_run n _ _ _ _ _ _ _ _ _ _ _ _ _ _ h hn
  exact ⟨_, D', c, s, h1, h2, ⟨n, g1⟩, ay_ap_le h4⟩
end AYQ
theorem ay_q_iret {C N pc len a b : Nat} {L : am_LL} {D : am_DD} {x : Int32} {ty : FieldType} (hf : am_fetch 105 pc = some (.ireturn, len, 8, a, b)) (hr : am_ret 105 = some ty) (hn : narrow ty (.int x) = .int x) : ay_tz C N 105 pc L [.int x] D (ay_ap (.inl (x, D))) := ay_q_end hf (by decide) ⟨rfl, by simp [am_end, hf, hr, hn]⟩
theorem ay_q_zret {C N pc len a b : Nat} {L : am_LL} {D : am_DD} {x : Int32} (hf : am_fetch 105 pc = some (.ireturn, len, 8, a, b)) (hr : am_ret 105 = some .boolean) (hn : ay_isb x = true) : ay_tz C N 105 pc L [.int x] D (ay_ap (.inl (x, D))) := ay_q_iret hf hr (by
  have h : x &&& 1 = x := of_decide_eq_true hn
  show Value.int (x &&& 1) = .int x
  rw [h])
theorem ay_q_lo {C N pc len g a b : Nat} {ins : Instr} {L : am_LL} {D : am_DD} {m w : Int32} (hf : am_fetch 105 pc = some (ins, len, g, a, b)) (h8 : 8 ≤ g) (hp : pc = 658) : ay_tz C N 105 pc L [.int w, .int m, .ref 0] D (ay_ap (.inr (m, w, D))) := ay_q_end hf h8 ⟨rfl, hp, rfl⟩
/-- drop, and what its exceptions are called -/
def fn_94 (a1 : Int32) (D : am_DD) : Option (Int32 × am_DD) := match fn_93 a1 D with
  | none => none
  | some (y, k, D1) => if k = 0 then some (y, D1) else if k = 1 then some (-7001, D1) else if k = 2 then some (-7002, D1) else none
set_option maxHeartbeats 2000000 in
theorem ev_94 {a1 y : Int32} {D Z : am_DD} (h : fn_94 a1 D = some (y, Z)) : ay_mq 94 [.ref 0, .int a1] D (some (.int y)) Z := by
  unfold fn_94 at h
  cases hk : fn_93 a1 D with
  | none => rw [hk] at h; cases h
  | some z =>
    obtain ⟨y1, k, D1⟩ := z
    rw [hk] at h
    dsimp only at h
    intro scr
    have e0 : am_L0 94 [.ref 0, .int a1] = [some (.ref 0), some (.int a1), none] := rfl
    rw [e0]
    have ag : am_args 93 [.int a1, .ref 0] = some ([.ref 0, .int a1], []) := ay_args [.ref 0, .int a1] [] rfl rfl (Nat.le_of_ble_eq_true rfl) (Nat.le_of_ble_eq_true rfl)
    have hm := ev_93 hk
    match k, hm, h with
    | 0, hm, h =>
      cases h
      refine ⟨_, 0, 0, by omega, by omega, ay_e_loc (pc := 0) fe_94_0 rfl (ay_e_loc (pc := 1) fe_94_1 rfl (ay_e_call (pc := 2) (v := some (.int y)) fe_94_2 ag (ay_rcvV at_0 rfl) hm (ay_e_end (pc := 5) fe_94_5 (by decide)))), ?_⟩
      simp [am_end, fe_94_5, show am_ret 94 = some .int from rfl, narrow]
    | 1, hm, h =>
      cases h
      refine ⟨_, 1, 6, by omega, by omega, ay_e_loc (pc := 0) fe_94_0 rfl (ay_e_loc (pc := 1) fe_94_1 rfl (ay_e_callX (pc := 2) (t := 7) (k := 2) (c := 0) (s := 0) fe_94_2 ag (ay_rcvV at_0 rfl) hm (by decide +kernel) rfl (ay_e_stk (pc := 7) (S' := [.int (-7001)]) fe_94_7 rfl (ay_e_end (pc := 10) fe_94_10 (by decide))))), ?_⟩
      simp [am_end, fe_94_10, show am_ret 94 = some .int from rfl, narrow]
    | 2, hm, h =>
      cases h
      refine ⟨_, 1, 6, by omega, by omega, ay_e_loc (pc := 0) fe_94_0 rfl (ay_e_loc (pc := 1) fe_94_1 rfl (ay_e_callX (pc := 2) (t := 12) (k := 2) (c := 0) (s := 0) fe_94_2 ag (ay_rcvV at_0 rfl) hm (by decide +kernel) rfl (ay_e_stk (pc := 12) (S' := [.int (-7002)]) fe_94_12 rfl (ay_e_end (pc := 15) fe_94_15 (by decide))))), ?_⟩
      simp [am_end, fe_94_15, show am_ret 94 = some .int from rfl, narrow]
    | k + 3, hm, h => simp at h
def fn_105_88 : Nat → Int32 → Int32 → am_DD → Option ((Int32 × am_DD) ⊕ (Int32 × Int32 × am_DD))
  | 0, _, _, _ => none
  | n + 1, x2, x3, D => (if x3 = 12 then some (.inl (1, D)) else (match fn_70 x2 31 D with | none => none | some (y334, D335) => (match fn_81 y334 D335 with | none => none | some (y337, k374, D338) => (if k374 = 0 then (if ¬ y337 = x3 then some (.inl (0, D338)) else (match fn_14 1 D338 with | none => none | some (y341, k372, D342) => (if k372 = 0 then (if ¬ y341 = (x3 + 1) then some (.inl (0, D342)) else (match fn_44 x3 0 D342 with | none => none | some (y345, k370, D346) => (if k370 = 0 then (if ¬ y345 = 0 then some (.inl (0, D346)) else (match fn_44 x3 1 D346 with | none => none | some (y349, k368, D350) => (if k368 = 0 then (match fn_70 x2 31 D350 with | none => none | some (y352, D353) => (if ¬ y349 = y352 then some (.inl (0, D353)) else (match fn_44 x3 2 D353 with | none => none | some (y356, k366, D357) => (if k366 = 0 then (if ¬ y356 = 20 then some (.inl (0, D357)) else (match fn_44 x3 3 D357 with | none => none | some (y360, k364, D361) => (if k364 = 0 then (if ¬ y360 = 20 then some (.inl (0, D361)) else some (.inl (1, D361))) else none))) else none)))) else none))) else none))) else none))) else none))))
set_option maxHeartbeats 4000000 in
theorem ev_105_88 : ∀ (n : Nat) (x2 x3 : Int32) (D : am_DD) (x : (Int32 × am_DD) ⊕ (Int32 × Int32 × am_DD)), fn_105_88 n x2 x3 D = some x → ay_tz 1 6 105 88 [some (.ref 0), none, some (.int x2), some (.int x3), none, none, none, none] [] D (ay_ap x) := by
  intro n
  induction n with
  | zero => intro x2 x3 D x h; cases h
  | succ n ih =>
    intro x2 x3 D x h
    rw [fn_105_88] at h
    refine ay_q_loc (pc := 88) fe_105_88 rfl ?_
    refine ay_q_stk (pc := 89) (S' := [.int 12, .int x3]) fe_105_89 rfl ?_
    by_cases hc333 : x3 = 12
    · rw [if_pos hc333] at h
      refine ay_q_pos (pc := 91) hc333 fe_105_91 rfl ?_
      refine ay_q_stk (pc := 165) (S' := [.int 1]) fe_105_165 rfl ?_
      refine ay_q_br (pc := 166) (pc' := 170) fe_105_166 rfl ?_
      cases h
      exact ay_q_iret fe_105_170 rfl rfl
    · rw [if_neg hc333] at h
      refine ay_q_neg (pc := 91) hc333 fe_105_91 rfl ?_
      refine ay_q_loc (pc := 94) fe_105_94 rfl ?_
      refine ay_q_loc (pc := 95) fe_105_95 rfl ?_
      refine ay_q_stk (pc := 96) (S' := [.int 31, .int x2, .ref 0]) fe_105_96 rfl ?_
      cases hk336 : fn_70 x2 31 D with
      | none => rw [hk336] at h; cases h
      | some z =>
        obtain ⟨y334, D335⟩ := z
        rw [hk336] at h
        dsimp only at h
        refine ay_q_call (pc := 98) (w := some (.int y334)) fe_105_98 (ay_args [.int x2, .int 31] [.ref 0] rfl rfl (Nat.le_of_ble_eq_true rfl) (Nat.le_of_ble_eq_true rfl)) rfl (ev_70 hk336) ?_
        cases hk339 : fn_81 y334 D335 with
        | none => rw [hk339] at h; cases h
        | some z =>
          obtain ⟨y337, k374, D338⟩ := z
          rw [hk339] at h
          dsimp only at h
          by_cases hz375 : k374 = 0
          case neg => rw [if_neg hz375] at h; cases h
          rw [if_pos hz375] at h
          subst hz375
          refine ay_q_call (pc := 101) (w := some (.int y337)) fe_105_101 (ay_args [.ref 0, .int y334] [] rfl rfl (Nat.le_of_ble_eq_true rfl) (Nat.le_of_ble_eq_true rfl)) (ay_rcvV at_0 rfl) (ev_81 hk339) ?_
          refine ay_q_loc (pc := 104) fe_105_104 rfl ?_
          by_cases hc340 : ¬ y337 = x3
          · rw [if_pos hc340] at h
            refine ay_q_pos (pc := 105) hc340 fe_105_105 rfl ?_
            refine ay_q_stk (pc := 169) (S' := [.int 0]) fe_105_169 rfl ?_
            cases h
            exact ay_q_iret fe_105_170 rfl rfl
          · rw [if_neg hc340] at h
            refine ay_q_neg (pc := 105) hc340 fe_105_105 rfl ?_
            refine ay_q_loc (pc := 108) fe_105_108 rfl ?_
            refine ay_q_stk (pc := 109) (S' := [.int 1, .ref 0]) fe_105_109 rfl ?_
            cases hk343 : fn_14 1 D338 with
            | none => rw [hk343] at h; cases h
            | some z =>
              obtain ⟨y341, k372, D342⟩ := z
              rw [hk343] at h
              dsimp only at h
              by_cases hz373 : k372 = 0
              case neg => rw [if_neg hz373] at h; cases h
              rw [if_pos hz373] at h
              subst hz373
              refine ay_q_call (pc := 110) (w := some (.int y341)) fe_105_110 (ay_args [.ref 0, .int 1] [] rfl rfl (Nat.le_of_ble_eq_true rfl) (Nat.le_of_ble_eq_true rfl)) (ay_rcvV at_0 rfl) (ev_14 hk343) ?_
              refine ay_q_loc (pc := 113) fe_105_113 rfl ?_
              refine ay_q_stk (pc := 114) (S' := [.int 1, .int x3, .int y341]) fe_105_114 rfl ?_
              refine ay_q_stk (pc := 115) (S' := [.int (x3 + 1), .int y341]) fe_105_115 rfl ?_
              by_cases hc344 : ¬ y341 = (x3 + 1)
              · rw [if_pos hc344] at h
                refine ay_q_pos (pc := 116) hc344 fe_105_116 rfl ?_
                refine ay_q_stk (pc := 169) (S' := [.int 0]) fe_105_169 rfl ?_
                cases h
                exact ay_q_iret fe_105_170 rfl rfl
              · rw [if_neg hc344] at h
                refine ay_q_neg (pc := 116) hc344 fe_105_116 rfl ?_
                refine ay_q_loc (pc := 119) fe_105_119 rfl ?_
                refine ay_q_loc (pc := 120) fe_105_120 rfl ?_
                refine ay_q_stk (pc := 121) (S' := [.int 0, .int x3, .ref 0]) fe_105_121 rfl ?_
                cases hk347 : fn_44 x3 0 D342 with
                | none => rw [hk347] at h; cases h
                | some z =>
                  obtain ⟨y345, k370, D346⟩ := z
                  rw [hk347] at h
                  dsimp only at h
                  by_cases hz371 : k370 = 0
                  case neg => rw [if_neg hz371] at h; cases h
                  rw [if_pos hz371] at h
                  subst hz371
                  refine ay_q_call (pc := 122) (w := some (.int y345)) fe_105_122 (ay_args [.ref 0, .int x3, .int 0] [] rfl rfl (Nat.le_of_ble_eq_true rfl) (Nat.le_of_ble_eq_true rfl)) (ay_rcvV at_0 rfl) (ev_44 hk347) ?_
                  by_cases hc348 : ¬ y345 = 0
                  · rw [if_pos hc348] at h
                    refine ay_q_pos (pc := 125) hc348 fe_105_125 rfl ?_
                    refine ay_q_stk (pc := 169) (S' := [.int 0]) fe_105_169 rfl ?_
                    cases h
                    exact ay_q_iret fe_105_170 rfl rfl
                  · rw [if_neg hc348] at h
                    refine ay_q_neg (pc := 125) hc348 fe_105_125 rfl ?_
                    refine ay_q_loc (pc := 128) fe_105_128 rfl ?_
                    refine ay_q_loc (pc := 129) fe_105_129 rfl ?_
                    refine ay_q_stk (pc := 130) (S' := [.int 1, .int x3, .ref 0]) fe_105_130 rfl ?_
                    cases hk351 : fn_44 x3 1 D346 with
                    | none => rw [hk351] at h; cases h
                    | some z =>
                      obtain ⟨y349, k368, D350⟩ := z
                      rw [hk351] at h
                      dsimp only at h
                      by_cases hz369 : k368 = 0
                      case neg => rw [if_neg hz369] at h; cases h
                      rw [if_pos hz369] at h
                      subst hz369
                      refine ay_q_call (pc := 131) (w := some (.int y349)) fe_105_131 (ay_args [.ref 0, .int x3, .int 1] [] rfl rfl (Nat.le_of_ble_eq_true rfl) (Nat.le_of_ble_eq_true rfl)) (ay_rcvV at_0 rfl) (ev_44 hk351) ?_
                      refine ay_q_loc (pc := 134) fe_105_134 rfl ?_
                      refine ay_q_stk (pc := 135) (S' := [.int 31, .int x2, .int y349]) fe_105_135 rfl ?_
                      cases hk354 : fn_70 x2 31 D350 with
                      | none => rw [hk354] at h; cases h
                      | some z =>
                        obtain ⟨y352, D353⟩ := z
                        rw [hk354] at h
                        dsimp only at h
                        refine ay_q_call (pc := 137) (w := some (.int y352)) fe_105_137 (ay_args [.int x2, .int 31] [.int y349] rfl rfl (Nat.le_of_ble_eq_true rfl) (Nat.le_of_ble_eq_true rfl)) rfl (ev_70 hk354) ?_
                        by_cases hc355 : ¬ y349 = y352
                        · rw [if_pos hc355] at h
                          refine ay_q_pos (pc := 140) hc355 fe_105_140 rfl ?_
                          refine ay_q_stk (pc := 169) (S' := [.int 0]) fe_105_169 rfl ?_
                          cases h
                          exact ay_q_iret fe_105_170 rfl rfl
                        · rw [if_neg hc355] at h
                          refine ay_q_neg (pc := 140) hc355 fe_105_140 rfl ?_
                          refine ay_q_loc (pc := 143) fe_105_143 rfl ?_
                          refine ay_q_loc (pc := 144) fe_105_144 rfl ?_
                          refine ay_q_stk (pc := 145) (S' := [.int 2, .int x3, .ref 0]) fe_105_145 rfl ?_
                          cases hk358 : fn_44 x3 2 D353 with
                          | none => rw [hk358] at h; cases h
                          | some z =>
                            obtain ⟨y356, k366, D357⟩ := z
                            rw [hk358] at h
                            dsimp only at h
                            by_cases hz367 : k366 = 0
                            case neg => rw [if_neg hz367] at h; cases h
                            rw [if_pos hz367] at h
                            subst hz367
                            refine ay_q_call (pc := 146) (w := some (.int y356)) fe_105_146 (ay_args [.ref 0, .int x3, .int 2] [] rfl rfl (Nat.le_of_ble_eq_true rfl) (Nat.le_of_ble_eq_true rfl)) (ay_rcvV at_0 rfl) (ev_44 hk358) ?_
                            refine ay_q_stk (pc := 149) (S' := [.int 20, .int y356]) fe_105_149 rfl ?_
                            by_cases hc359 : ¬ y356 = 20
                            · rw [if_pos hc359] at h
                              refine ay_q_pos (pc := 151) hc359 fe_105_151 rfl ?_
                              refine ay_q_stk (pc := 169) (S' := [.int 0]) fe_105_169 rfl ?_
                              cases h
                              exact ay_q_iret fe_105_170 rfl rfl
                            · rw [if_neg hc359] at h
                              refine ay_q_neg (pc := 151) hc359 fe_105_151 rfl ?_
                              refine ay_q_loc (pc := 154) fe_105_154 rfl ?_
                              refine ay_q_loc (pc := 155) fe_105_155 rfl ?_
                              refine ay_q_stk (pc := 156) (S' := [.int 3, .int x3, .ref 0]) fe_105_156 rfl ?_
                              cases hk362 : fn_44 x3 3 D357 with
                              | none => rw [hk362] at h; cases h
                              | some z =>
                                obtain ⟨y360, k364, D361⟩ := z
                                rw [hk362] at h
                                dsimp only at h
                                by_cases hz365 : k364 = 0
                                case neg => rw [if_neg hz365] at h; cases h
                                rw [if_pos hz365] at h
                                subst hz365
                                refine ay_q_call (pc := 157) (w := some (.int y360)) fe_105_157 (ay_args [.ref 0, .int x3, .int 3] [] rfl rfl (Nat.le_of_ble_eq_true rfl) (Nat.le_of_ble_eq_true rfl)) (ay_rcvV at_0 rfl) (ev_44 hk362) ?_
                                refine ay_q_stk (pc := 160) (S' := [.int 20, .int y360]) fe_105_160 rfl ?_
                                by_cases hc363 : ¬ y360 = 20
                                · rw [if_pos hc363] at h
                                  refine ay_q_pos (pc := 162) hc363 fe_105_162 rfl ?_
                                  refine ay_q_stk (pc := 169) (S' := [.int 0]) fe_105_169 rfl ?_
                                  cases h
                                  exact ay_q_iret fe_105_170 rfl rfl
                                · rw [if_neg hc363] at h
                                  refine ay_q_neg (pc := 162) hc363 fe_105_162 rfl ?_
                                  refine ay_q_stk (pc := 165) (S' := [.int 1]) fe_105_165 rfl ?_
                                  refine ay_q_br (pc := 166) (pc' := 170) fe_105_166 rfl ?_
                                  cases h
                                  exact ay_q_iret fe_105_170 rfl rfl
def fn_105_252 : Nat → Int32 → Int32 → Int32 → Int32 → Int32 → am_DD → Option ((Int32 × am_DD) ⊕ (Int32 × Int32 × am_DD))
  | 0, _, _, _, _, _, _ => none
  | n + 1, x2, x3, x4, x5, x6, D => (if x3 = 0 then some (.inl (1, D)) else (match fn_70 (x2 >>> (4 &&& 31)) 2 D with | none => none | some (y315, D316) => (match fn_85 x4 y315 x5 D316 with | none => none | some (y318, k331, D319) => (if k331 = 0 then (if ¬ y318 = x6 then some (.inl (0, D319)) else (match fn_70 (x2 >>> (4 &&& 31)) 2 D319 with | none => none | some (y322, D323) => (match fn_44 x4 (2 + y322) D323 with | none => none | some (y325, k329, D326) => (if k329 = 0 then (if ¬ y325 = x5 then some (.inl (0, D326)) else some (.inl (1, D326))) else none)))) else none))))
set_option maxHeartbeats 4000000 in
theorem ev_105_252 : ∀ (n : Nat) (x2 x3 x4 x5 x6 : Int32) (D : am_DD) (x : (Int32 × am_DD) ⊕ (Int32 × Int32 × am_DD)), fn_105_252 n x2 x3 x4 x5 x6 D = some x → ay_tz 1 6 105 252 [some (.ref 0), none, some (.int x2), some (.int x3), some (.int x4), some (.int x5), some (.int x6), none] [] D (ay_ap x) := by
  intro n
  induction n with
  | zero => intro x2 x3 x4 x5 x6 D x h; cases h
  | succ n ih =>
    intro x2 x3 x4 x5 x6 D x h
    rw [fn_105_252] at h
    refine ay_q_loc (pc := 252) fe_105_252 rfl ?_
    by_cases hc314 : x3 = 0
    · rw [if_pos hc314] at h
      refine ay_q_pos (pc := 253) hc314 fe_105_253 rfl ?_
      refine ay_q_stk (pc := 296) (S' := [.int 1]) fe_105_296 rfl ?_
      refine ay_q_br (pc := 297) (pc' := 301) fe_105_297 rfl ?_
      cases h
      exact ay_q_iret fe_105_301 rfl rfl
    · rw [if_neg hc314] at h
      refine ay_q_neg (pc := 253) hc314 fe_105_253 rfl ?_
      refine ay_q_loc (pc := 256) fe_105_256 rfl ?_
      refine ay_q_loc (pc := 257) fe_105_257 rfl ?_
      refine ay_q_loc (pc := 259) fe_105_259 rfl ?_
      refine ay_q_stk (pc := 260) (S' := [.int 4, .int x2, .int x4, .ref 0]) fe_105_260 rfl ?_
      refine ay_q_stk (pc := 261) (S' := [.int (x2 >>> (4 &&& 31)), .int x4, .ref 0]) fe_105_261 rfl ?_
      refine ay_q_stk (pc := 262) (S' := [.int 2, .int (x2 >>> (4 &&& 31)), .int x4, .ref 0]) fe_105_262 rfl ?_
      cases hk317 : fn_70 (x2 >>> (4 &&& 31)) 2 D with
      | none => rw [hk317] at h; cases h
      | some z =>
        obtain ⟨y315, D316⟩ := z
        rw [hk317] at h
        dsimp only at h
        refine ay_q_call (pc := 263) (w := some (.int y315)) fe_105_263 (ay_args [.int (x2 >>> (4 &&& 31)), .int 2] [.int x4, .ref 0] rfl rfl (Nat.le_of_ble_eq_true rfl) (Nat.le_of_ble_eq_true rfl)) rfl (ev_70 hk317) ?_
        refine ay_q_loc (pc := 266) fe_105_266 rfl ?_
        cases hk320 : fn_85 x4 y315 x5 D316 with
        | none => rw [hk320] at h; cases h
        | some z =>
          obtain ⟨y318, k331, D319⟩ := z
          rw [hk320] at h
          dsimp only at h
          by_cases hz332 : k331 = 0
          case neg => rw [if_neg hz332] at h; cases h
          rw [if_pos hz332] at h
          subst hz332
          refine ay_q_call (pc := 268) (w := some (.int y318)) fe_105_268 (ay_args [.ref 0, .int x4, .int y315, .int x5] [] rfl rfl (Nat.le_of_ble_eq_true rfl) (Nat.le_of_ble_eq_true rfl)) (ay_rcvV at_0 rfl) (ev_85 hk320) ?_
          refine ay_q_loc (pc := 271) fe_105_271 rfl ?_
          by_cases hc321 : ¬ y318 = x6
          · rw [if_pos hc321] at h
            refine ay_q_pos (pc := 273) hc321 fe_105_273 rfl ?_
            refine ay_q_stk (pc := 300) (S' := [.int 0]) fe_105_300 rfl ?_
            cases h
            exact ay_q_iret fe_105_301 rfl rfl
          · rw [if_neg hc321] at h
            refine ay_q_neg (pc := 273) hc321 fe_105_273 rfl ?_
            refine ay_q_loc (pc := 276) fe_105_276 rfl ?_
            refine ay_q_loc (pc := 277) fe_105_277 rfl ?_
            refine ay_q_stk (pc := 279) (S' := [.int 2, .int x4, .ref 0]) fe_105_279 rfl ?_
            refine ay_q_loc (pc := 280) fe_105_280 rfl ?_
            refine ay_q_stk (pc := 281) (S' := [.int 4, .int x2, .int 2, .int x4, .ref 0]) fe_105_281 rfl ?_
            refine ay_q_stk (pc := 282) (S' := [.int (x2 >>> (4 &&& 31)), .int 2, .int x4, .ref 0]) fe_105_282 rfl ?_
            refine ay_q_stk (pc := 283) (S' := [.int 2, .int (x2 >>> (4 &&& 31)), .int 2, .int x4, .ref 0]) fe_105_283 rfl ?_
            cases hk324 : fn_70 (x2 >>> (4 &&& 31)) 2 D319 with
            | none => rw [hk324] at h; cases h
            | some z =>
              obtain ⟨y322, D323⟩ := z
              rw [hk324] at h
              dsimp only at h
              refine ay_q_call (pc := 284) (w := some (.int y322)) fe_105_284 (ay_args [.int (x2 >>> (4 &&& 31)), .int 2] [.int 2, .int x4, .ref 0] rfl rfl (Nat.le_of_ble_eq_true rfl) (Nat.le_of_ble_eq_true rfl)) rfl (ev_70 hk324) ?_
              refine ay_q_stk (pc := 287) (S' := [.int (2 + y322), .int x4, .ref 0]) fe_105_287 rfl ?_
              cases hk327 : fn_44 x4 (2 + y322) D323 with
              | none => rw [hk327] at h; cases h
              | some z =>
                obtain ⟨y325, k329, D326⟩ := z
                rw [hk327] at h
                dsimp only at h
                by_cases hz330 : k329 = 0
                case neg => rw [if_neg hz330] at h; cases h
                rw [if_pos hz330] at h
                subst hz330
                refine ay_q_call (pc := 288) (w := some (.int y325)) fe_105_288 (ay_args [.ref 0, .int x4, .int (2 + y322)] [] rfl rfl (Nat.le_of_ble_eq_true rfl) (Nat.le_of_ble_eq_true rfl)) (ay_rcvV at_0 rfl) (ev_44 hk327) ?_
                refine ay_q_loc (pc := 291) fe_105_291 rfl ?_
                by_cases hc328 : ¬ y325 = x5
                · rw [if_pos hc328] at h
                  refine ay_q_pos (pc := 293) hc328 fe_105_293 rfl ?_
                  refine ay_q_stk (pc := 300) (S' := [.int 0]) fe_105_300 rfl ?_
                  cases h
                  exact ay_q_iret fe_105_301 rfl rfl
                · rw [if_neg hc328] at h
                  refine ay_q_neg (pc := 293) hc328 fe_105_293 rfl ?_
                  refine ay_q_stk (pc := 296) (S' := [.int 1]) fe_105_296 rfl ?_
                  refine ay_q_br (pc := 297) (pc' := 301) fe_105_297 rfl ?_
                  cases h
                  exact ay_q_iret fe_105_301 rfl rfl
def fn_105_227 : Nat → Int32 → Int32 → Int32 → Int32 → am_DD → Option ((Int32 × am_DD) ⊕ (Int32 × Int32 × am_DD))
  | 0, _, _, _, _, _ => none
  | n + 1, x2, x3, x4, x5, D => (if ¬ x3 = 0 then (match fn_70 (x2 >>> (4 &&& 31)) 2 D with | none => none | some (y306, D307) => (match fn_44 x4 (2 + y306) D307 with | none => none | some (y309, k312, D310) => (if k312 = 0 then fn_105_252 am_F x2 x3 x4 x5 y309 D310 else none))) else fn_105_252 am_F x2 x3 x4 x5 0 D)
set_option maxHeartbeats 4000000 in
theorem ev_105_227 : ∀ (n : Nat) (x2 x3 x4 x5 : Int32) (D : am_DD) (x : (Int32 × am_DD) ⊕ (Int32 × Int32 × am_DD)), fn_105_227 n x2 x3 x4 x5 D = some x → ay_tz 1 6 105 227 [some (.ref 0), none, some (.int x2), some (.int x3), some (.int x4), some (.int x5), none, none] [] D (ay_ap x) := by
  intro n
  induction n with
  | zero => intro x2 x3 x4 x5 D x h; cases h
  | succ n ih =>
    intro x2 x3 x4 x5 D x h
    rw [fn_105_227] at h
    refine ay_q_loc (pc := 227) fe_105_227 rfl ?_
    by_cases hc305 : ¬ x3 = 0
    · rw [if_pos hc305] at h
      refine ay_q_pos (pc := 228) hc305 fe_105_228 rfl ?_
      refine ay_q_loc (pc := 235) fe_105_235 rfl ?_
      refine ay_q_loc (pc := 236) fe_105_236 rfl ?_
      refine ay_q_stk (pc := 238) (S' := [.int 2, .int x4, .ref 0]) fe_105_238 rfl ?_
      refine ay_q_loc (pc := 239) fe_105_239 rfl ?_
      refine ay_q_stk (pc := 240) (S' := [.int 4, .int x2, .int 2, .int x4, .ref 0]) fe_105_240 rfl ?_
      refine ay_q_stk (pc := 241) (S' := [.int (x2 >>> (4 &&& 31)), .int 2, .int x4, .ref 0]) fe_105_241 rfl ?_
      refine ay_q_stk (pc := 242) (S' := [.int 2, .int (x2 >>> (4 &&& 31)), .int 2, .int x4, .ref 0]) fe_105_242 rfl ?_
      cases hk308 : fn_70 (x2 >>> (4 &&& 31)) 2 D with
      | none => rw [hk308] at h; cases h
      | some z =>
        obtain ⟨y306, D307⟩ := z
        rw [hk308] at h
        dsimp only at h
        refine ay_q_call (pc := 243) (w := some (.int y306)) fe_105_243 (ay_args [.int (x2 >>> (4 &&& 31)), .int 2] [.int 2, .int x4, .ref 0] rfl rfl (Nat.le_of_ble_eq_true rfl) (Nat.le_of_ble_eq_true rfl)) rfl (ev_70 hk308) ?_
        refine ay_q_stk (pc := 246) (S' := [.int (2 + y306), .int x4, .ref 0]) fe_105_246 rfl ?_
        cases hk311 : fn_44 x4 (2 + y306) D307 with
        | none => rw [hk311] at h; cases h
        | some z =>
          obtain ⟨y309, k312, D310⟩ := z
          rw [hk311] at h
          dsimp only at h
          by_cases hz313 : k312 = 0
          case neg => rw [if_neg hz313] at h; cases h
          rw [if_pos hz313] at h
          subst hz313
          refine ay_q_call (pc := 247) (w := some (.int y309)) fe_105_247 (ay_args [.ref 0, .int x4, .int (2 + y306)] [] rfl rfl (Nat.le_of_ble_eq_true rfl) (Nat.le_of_ble_eq_true rfl)) (ay_rcvV at_0 rfl) (ev_44 hk311) ?_
          refine ay_q_loc (pc := 250) (L' := [some (.ref 0), none, some (.int x2), some (.int x3), some (.int x4), some (.int x5), some (.int y309), none]) fe_105_250 rfl ?_
          exact ay_q_less (ay_ls (ay_ls (ay_ls (ay_ls (ay_ls (ay_ls (ay_ls (ay_ls ay_l0)))))))) (ev_105_252 _ _ _ _ _ _ _ _ h)
    · rw [if_neg hc305] at h
      refine ay_q_neg (pc := 228) hc305 fe_105_228 rfl ?_
      refine ay_q_stk (pc := 231) (S' := [.int 0]) fe_105_231 rfl ?_
      refine ay_q_br (pc := 232) (pc' := 250) fe_105_232 rfl ?_
      refine ay_q_loc (pc := 250) (L' := [some (.ref 0), none, some (.int x2), some (.int x3), some (.int x4), some (.int x5), some (.int 0), none]) fe_105_250 rfl ?_
      exact ay_q_less (ay_ls (ay_ls (ay_ls (ay_ls (ay_ls (ay_ls (ay_ls (ay_ls ay_l0)))))))) (ev_105_252 _ _ _ _ _ _ _ _ h)
def fn_105_171 : Nat → Int32 → Int32 → Int32 → am_DD → Option ((Int32 × am_DD) ⊕ (Int32 × Int32 × am_DD))
  | 0, _, _, _, _ => none
  | n + 1, x2, x3, x4, D => (if x3 = 0 then (match fn_70 (x2 >>> (7 &&& 31)) 5 D with | none => none | some (y288, D289) => fn_105_227 am_F x2 x3 x4 (20 + y288) D289) else (if x4 = (x3 - 1) then (match fn_70 (x2 >>> (7 &&& 31)) 5 D with | none => none | some (y292, D293) => fn_105_227 am_F x2 x3 x4 (20 + y292) D293) else (match fn_70 (x2 >>> (5 &&& 31)) 3 D with | none => none | some (y295, D296) => (if ¬ y295 = 0 then (match fn_70 (x2 >>> (7 &&& 31)) ((x3 - 1) - x4) D296 with | none => none | some (y299, D300) => fn_105_227 am_F x2 x3 x4 ((x4 + 1) + y299) D300) else (match fn_70 (x2 >>> (7 &&& 31)) 5 D296 with | none => none | some (y302, D303) => fn_105_227 am_F x2 x3 x4 (20 + y302) D303)))))
set_option maxHeartbeats 4000000 in
theorem ev_105_171 : ∀ (n : Nat) (x2 x3 x4 : Int32) (D : am_DD) (x : (Int32 × am_DD) ⊕ (Int32 × Int32 × am_DD)), fn_105_171 n x2 x3 x4 D = some x → ay_tz 1 6 105 171 [some (.ref 0), none, some (.int x2), some (.int x3), some (.int x4), none, none, none] [] D (ay_ap x) := by
  intro n
  induction n with
  | zero => intro x2 x3 x4 D x h; cases h
  | succ n ih =>
    intro x2 x3 x4 D x h
    rw [fn_105_171] at h
    refine ay_q_loc (pc := 171) fe_105_171 rfl ?_
    by_cases hc287 : x3 = 0
    · rw [if_pos hc287] at h
      refine ay_q_pos (pc := 172) hc287 fe_105_172 rfl ?_
      refine ay_q_stk (pc := 193) (S' := [.int 20]) fe_105_193 rfl ?_
      refine ay_q_loc (pc := 195) fe_105_195 rfl ?_
      refine ay_q_stk (pc := 196) (S' := [.int 7, .int x2, .int 20]) fe_105_196 rfl ?_
      refine ay_q_stk (pc := 198) (S' := [.int (x2 >>> (7 &&& 31)), .int 20]) fe_105_198 rfl ?_
      refine ay_q_stk (pc := 199) (S' := [.int 5, .int (x2 >>> (7 &&& 31)), .int 20]) fe_105_199 rfl ?_
      cases hk290 : fn_70 (x2 >>> (7 &&& 31)) 5 D with
      | none => rw [hk290] at h; cases h
      | some z =>
        obtain ⟨y288, D289⟩ := z
        rw [hk290] at h
        dsimp only at h
        refine ay_q_call (pc := 200) (w := some (.int y288)) fe_105_200 (ay_args [.int (x2 >>> (7 &&& 31)), .int 5] [.int 20] rfl rfl (Nat.le_of_ble_eq_true rfl) (Nat.le_of_ble_eq_true rfl)) rfl (ev_70 hk290) ?_
        refine ay_q_stk (pc := 203) (S' := [.int (20 + y288)]) fe_105_203 rfl ?_
        refine ay_q_br (pc := 204) (pc' := 225) fe_105_204 rfl ?_
        refine ay_q_loc (pc := 225) (L' := [some (.ref 0), none, some (.int x2), some (.int x3), some (.int x4), some (.int (20 + y288)), none, none]) fe_105_225 rfl ?_
        exact ay_q_less (ay_ls (ay_ls (ay_ls (ay_ls (ay_ls (ay_ls (ay_ls (ay_ls ay_l0)))))))) (ev_105_227 _ _ _ _ _ _ _ h)
    · rw [if_neg hc287] at h
      refine ay_q_neg (pc := 172) hc287 fe_105_172 rfl ?_
      refine ay_q_loc (pc := 175) fe_105_175 rfl ?_
      refine ay_q_loc (pc := 177) fe_105_177 rfl ?_
      refine ay_q_stk (pc := 178) (S' := [.int 1, .int x3, .int x4]) fe_105_178 rfl ?_
      refine ay_q_stk (pc := 179) (S' := [.int (x3 - 1), .int x4]) fe_105_179 rfl ?_
      by_cases hc291 : x4 = (x3 - 1)
      · rw [if_pos hc291] at h
        refine ay_q_pos (pc := 180) hc291 fe_105_180 rfl ?_
        refine ay_q_stk (pc := 193) (S' := [.int 20]) fe_105_193 rfl ?_
        refine ay_q_loc (pc := 195) fe_105_195 rfl ?_
        refine ay_q_stk (pc := 196) (S' := [.int 7, .int x2, .int 20]) fe_105_196 rfl ?_
        refine ay_q_stk (pc := 198) (S' := [.int (x2 >>> (7 &&& 31)), .int 20]) fe_105_198 rfl ?_
        refine ay_q_stk (pc := 199) (S' := [.int 5, .int (x2 >>> (7 &&& 31)), .int 20]) fe_105_199 rfl ?_
        cases hk294 : fn_70 (x2 >>> (7 &&& 31)) 5 D with
        | none => rw [hk294] at h; cases h
        | some z =>
          obtain ⟨y292, D293⟩ := z
          rw [hk294] at h
          dsimp only at h
          refine ay_q_call (pc := 200) (w := some (.int y292)) fe_105_200 (ay_args [.int (x2 >>> (7 &&& 31)), .int 5] [.int 20] rfl rfl (Nat.le_of_ble_eq_true rfl) (Nat.le_of_ble_eq_true rfl)) rfl (ev_70 hk294) ?_
          refine ay_q_stk (pc := 203) (S' := [.int (20 + y292)]) fe_105_203 rfl ?_
          refine ay_q_br (pc := 204) (pc' := 225) fe_105_204 rfl ?_
          refine ay_q_loc (pc := 225) (L' := [some (.ref 0), none, some (.int x2), some (.int x3), some (.int x4), some (.int (20 + y292)), none, none]) fe_105_225 rfl ?_
          exact ay_q_less (ay_ls (ay_ls (ay_ls (ay_ls (ay_ls (ay_ls (ay_ls (ay_ls ay_l0)))))))) (ev_105_227 _ _ _ _ _ _ _ h)
      · rw [if_neg hc291] at h
        refine ay_q_neg (pc := 180) hc291 fe_105_180 rfl ?_
        refine ay_q_loc (pc := 183) fe_105_183 rfl ?_
        refine ay_q_stk (pc := 184) (S' := [.int 5, .int x2]) fe_105_184 rfl ?_
        refine ay_q_stk (pc := 185) (S' := [.int (x2 >>> (5 &&& 31))]) fe_105_185 rfl ?_
        refine ay_q_stk (pc := 186) (S' := [.int 3, .int (x2 >>> (5 &&& 31))]) fe_105_186 rfl ?_
        cases hk297 : fn_70 (x2 >>> (5 &&& 31)) 3 D with
        | none => rw [hk297] at h; cases h
        | some z =>
          obtain ⟨y295, D296⟩ := z
          rw [hk297] at h
          dsimp only at h
          refine ay_q_call (pc := 187) (w := some (.int y295)) fe_105_187 (ay_args [.int (x2 >>> (5 &&& 31)), .int 3] [] rfl rfl (Nat.le_of_ble_eq_true rfl) (Nat.le_of_ble_eq_true rfl)) rfl (ev_70 hk297) ?_
          by_cases hc298 : ¬ y295 = 0
          · rw [if_pos hc298] at h
            refine ay_q_pos (pc := 190) hc298 fe_105_190 rfl ?_
            refine ay_q_loc (pc := 207) fe_105_207 rfl ?_
            refine ay_q_stk (pc := 209) (S' := [.int 1, .int x4]) fe_105_209 rfl ?_
            refine ay_q_stk (pc := 210) (S' := [.int (x4 + 1)]) fe_105_210 rfl ?_
            refine ay_q_loc (pc := 211) fe_105_211 rfl ?_
            refine ay_q_stk (pc := 212) (S' := [.int 7, .int x2, .int (x4 + 1)]) fe_105_212 rfl ?_
            refine ay_q_stk (pc := 214) (S' := [.int (x2 >>> (7 &&& 31)), .int (x4 + 1)]) fe_105_214 rfl ?_
            refine ay_q_loc (pc := 215) fe_105_215 rfl ?_
            refine ay_q_stk (pc := 216) (S' := [.int 1, .int x3, .int (x2 >>> (7 &&& 31)), .int (x4 + 1)]) fe_105_216 rfl ?_
            refine ay_q_stk (pc := 217) (S' := [.int (x3 - 1), .int (x2 >>> (7 &&& 31)), .int (x4 + 1)]) fe_105_217 rfl ?_
            refine ay_q_loc (pc := 218) fe_105_218 rfl ?_
            refine ay_q_stk (pc := 220) (S' := [.int ((x3 - 1) - x4), .int (x2 >>> (7 &&& 31)), .int (x4 + 1)]) fe_105_220 rfl ?_
            cases hk301 : fn_70 (x2 >>> (7 &&& 31)) ((x3 - 1) - x4) D296 with
            | none => rw [hk301] at h; cases h
            | some z =>
              obtain ⟨y299, D300⟩ := z
              rw [hk301] at h
              dsimp only at h
              refine ay_q_call (pc := 221) (w := some (.int y299)) fe_105_221 (ay_args [.int (x2 >>> (7 &&& 31)), .int ((x3 - 1) - x4)] [.int (x4 + 1)] rfl rfl (Nat.le_of_ble_eq_true rfl) (Nat.le_of_ble_eq_true rfl)) rfl (ev_70 hk301) ?_
              refine ay_q_stk (pc := 224) (S' := [.int ((x4 + 1) + y299)]) fe_105_224 rfl ?_
              refine ay_q_loc (pc := 225) (L' := [some (.ref 0), none, some (.int x2), some (.int x3), some (.int x4), some (.int ((x4 + 1) + y299)), none, none]) fe_105_225 rfl ?_
              exact ay_q_less (ay_ls (ay_ls (ay_ls (ay_ls (ay_ls (ay_ls (ay_ls (ay_ls ay_l0)))))))) (ev_105_227 _ _ _ _ _ _ _ h)
          · rw [if_neg hc298] at h
            refine ay_q_neg (pc := 190) hc298 fe_105_190 rfl ?_
            refine ay_q_stk (pc := 193) (S' := [.int 20]) fe_105_193 rfl ?_
            refine ay_q_loc (pc := 195) fe_105_195 rfl ?_
            refine ay_q_stk (pc := 196) (S' := [.int 7, .int x2, .int 20]) fe_105_196 rfl ?_
            refine ay_q_stk (pc := 198) (S' := [.int (x2 >>> (7 &&& 31)), .int 20]) fe_105_198 rfl ?_
            refine ay_q_stk (pc := 199) (S' := [.int 5, .int (x2 >>> (7 &&& 31)), .int 20]) fe_105_199 rfl ?_
            cases hk304 : fn_70 (x2 >>> (7 &&& 31)) 5 D296 with
            | none => rw [hk304] at h; cases h
            | some z =>
              obtain ⟨y302, D303⟩ := z
              rw [hk304] at h
              dsimp only at h
              refine ay_q_call (pc := 200) (w := some (.int y302)) fe_105_200 (ay_args [.int (x2 >>> (7 &&& 31)), .int 5] [.int 20] rfl rfl (Nat.le_of_ble_eq_true rfl) (Nat.le_of_ble_eq_true rfl)) rfl (ev_70 hk304) ?_
              refine ay_q_stk (pc := 203) (S' := [.int (20 + y302)]) fe_105_203 rfl ?_
              refine ay_q_br (pc := 204) (pc' := 225) fe_105_204 rfl ?_
              refine ay_q_loc (pc := 225) (L' := [some (.ref 0), none, some (.int x2), some (.int x3), some (.int x4), some (.int (20 + y302)), none, none]) fe_105_225 rfl ?_
              exact ay_q_less (ay_ls (ay_ls (ay_ls (ay_ls (ay_ls (ay_ls (ay_ls (ay_ls ay_l0)))))))) (ev_105_227 _ _ _ _ _ _ _ h)
def fn_105_319 : Nat → Int32 → Int32 → Int32 → am_DD → Option ((Int32 × am_DD) ⊕ (Int32 × Int32 × am_DD))
  | 0, _, _, _, _ => none
  | n + 1, x3, x4, x5, D => (if x3 = 0 then some (.inl (1, D)) else (match fn_87 x4 D with | none => none | some (y275, k285, D276) => (if k285 = 0 then (if ¬ y275 = (1 - x5) then some (.inl (0, D276)) else (match fn_44 x4 0 D276 with | none => none | some (y279, k283, D280) => (if k283 = 0 then (if ¬ y279 = (1 - x5) then some (.inl (0, D280)) else some (.inl (1, D280))) else none))) else none)))
set_option maxHeartbeats 4000000 in
theorem ev_105_319 : ∀ (n : Nat) (x3 x4 x5 : Int32) (D : am_DD) (x : (Int32 × am_DD) ⊕ (Int32 × Int32 × am_DD)), fn_105_319 n x3 x4 x5 D = some x → ay_tz 1 6 105 319 [some (.ref 0), none, none, some (.int x3), some (.int x4), some (.int x5), none, none] [] D (ay_ap x) := by
  intro n
  induction n with
  | zero => intro x3 x4 x5 D x h; cases h
  | succ n ih =>
    intro x3 x4 x5 D x h
    rw [fn_105_319] at h
    refine ay_q_loc (pc := 319) fe_105_319 rfl ?_
    by_cases hc274 : x3 = 0
    · rw [if_pos hc274] at h
      refine ay_q_pos (pc := 320) hc274 fe_105_320 rfl ?_
      refine ay_q_stk (pc := 350) (S' := [.int 1]) fe_105_350 rfl ?_
      refine ay_q_br (pc := 351) (pc' := 355) fe_105_351 rfl ?_
      cases h
      exact ay_q_iret fe_105_355 rfl rfl
    · rw [if_neg hc274] at h
      refine ay_q_neg (pc := 320) hc274 fe_105_320 rfl ?_
      refine ay_q_loc (pc := 323) fe_105_323 rfl ?_
      refine ay_q_loc (pc := 324) fe_105_324 rfl ?_
      cases hk277 : fn_87 x4 D with
      | none => rw [hk277] at h; cases h
      | some z =>
        obtain ⟨y275, k285, D276⟩ := z
        rw [hk277] at h
        dsimp only at h
        by_cases hz286 : k285 = 0
        case neg => rw [if_neg hz286] at h; cases h
        rw [if_pos hz286] at h
        subst hz286
        refine ay_q_call (pc := 326) (w := some (.int y275)) fe_105_326 (ay_args [.ref 0, .int x4] [] rfl rfl (Nat.le_of_ble_eq_true rfl) (Nat.le_of_ble_eq_true rfl)) (ay_rcvV at_0 rfl) (ev_87 hk277) ?_
        refine ay_q_stk (pc := 329) (S' := [.int 1, .int y275]) fe_105_329 rfl ?_
        refine ay_q_loc (pc := 330) fe_105_330 rfl ?_
        refine ay_q_stk (pc := 332) (S' := [.int (1 - x5), .int y275]) fe_105_332 rfl ?_
        by_cases hc278 : ¬ y275 = (1 - x5)
        · rw [if_pos hc278] at h
          refine ay_q_pos (pc := 333) hc278 fe_105_333 rfl ?_
          refine ay_q_stk (pc := 354) (S' := [.int 0]) fe_105_354 rfl ?_
          cases h
          exact ay_q_iret fe_105_355 rfl rfl
        · rw [if_neg hc278] at h
          refine ay_q_neg (pc := 333) hc278 fe_105_333 rfl ?_
          refine ay_q_loc (pc := 336) fe_105_336 rfl ?_
          refine ay_q_loc (pc := 337) fe_105_337 rfl ?_
          refine ay_q_stk (pc := 339) (S' := [.int 0, .int x4, .ref 0]) fe_105_339 rfl ?_
          cases hk281 : fn_44 x4 0 D276 with
          | none => rw [hk281] at h; cases h
          | some z =>
            obtain ⟨y279, k283, D280⟩ := z
            rw [hk281] at h
            dsimp only at h
            by_cases hz284 : k283 = 0
            case neg => rw [if_neg hz284] at h; cases h
            rw [if_pos hz284] at h
            subst hz284
            refine ay_q_call (pc := 340) (w := some (.int y279)) fe_105_340 (ay_args [.ref 0, .int x4, .int 0] [] rfl rfl (Nat.le_of_ble_eq_true rfl) (Nat.le_of_ble_eq_true rfl)) (ay_rcvV at_0 rfl) (ev_44 hk281) ?_
            refine ay_q_stk (pc := 343) (S' := [.int 1, .int y279]) fe_105_343 rfl ?_
            refine ay_q_loc (pc := 344) fe_105_344 rfl ?_
            refine ay_q_stk (pc := 346) (S' := [.int (1 - x5), .int y279]) fe_105_346 rfl ?_
            by_cases hc282 : ¬ y279 = (1 - x5)
            · rw [if_pos hc282] at h
              refine ay_q_pos (pc := 347) hc282 fe_105_347 rfl ?_
              refine ay_q_stk (pc := 354) (S' := [.int 0]) fe_105_354 rfl ?_
              cases h
              exact ay_q_iret fe_105_355 rfl rfl
            · rw [if_neg hc282] at h
              refine ay_q_neg (pc := 347) hc282 fe_105_347 rfl ?_
              refine ay_q_stk (pc := 350) (S' := [.int 1]) fe_105_350 rfl ?_
              refine ay_q_br (pc := 351) (pc' := 355) fe_105_351 rfl ?_
              cases h
              exact ay_q_iret fe_105_355 rfl rfl
def fn_105_302 : Nat → Int32 → Int32 → am_DD → Option ((Int32 × am_DD) ⊕ (Int32 × Int32 × am_DD))
  | 0, _, _, _ => none
  | n + 1, x3, x4, D => (if ¬ x3 = 0 then (match fn_44 x4 0 D with | none => none | some (y269, k272, D270) => (if k272 = 0 then fn_105_319 am_F x3 x4 y269 D270 else none)) else fn_105_319 am_F x3 x4 0 D)
set_option maxHeartbeats 4000000 in
theorem ev_105_302 : ∀ (n : Nat) (x3 x4 : Int32) (D : am_DD) (x : (Int32 × am_DD) ⊕ (Int32 × Int32 × am_DD)), fn_105_302 n x3 x4 D = some x → ay_tz 1 6 105 302 [some (.ref 0), none, none, some (.int x3), some (.int x4), none, none, none] [] D (ay_ap x) := by
  intro n
  induction n with
  | zero => intro x3 x4 D x h; cases h
  | succ n ih =>
    intro x3 x4 D x h
    rw [fn_105_302] at h
    refine ay_q_loc (pc := 302) fe_105_302 rfl ?_
    by_cases hc268 : ¬ x3 = 0
    · rw [if_pos hc268] at h
      refine ay_q_pos (pc := 303) hc268 fe_105_303 rfl ?_
      refine ay_q_loc (pc := 310) fe_105_310 rfl ?_
      refine ay_q_loc (pc := 311) fe_105_311 rfl ?_
      refine ay_q_stk (pc := 313) (S' := [.int 0, .int x4, .ref 0]) fe_105_313 rfl ?_
      cases hk271 : fn_44 x4 0 D with
      | none => rw [hk271] at h; cases h
      | some z =>
        obtain ⟨y269, k272, D270⟩ := z
        rw [hk271] at h
        dsimp only at h
        by_cases hz273 : k272 = 0
        case neg => rw [if_neg hz273] at h; cases h
        rw [if_pos hz273] at h
        subst hz273
        refine ay_q_call (pc := 314) (w := some (.int y269)) fe_105_314 (ay_args [.ref 0, .int x4, .int 0] [] rfl rfl (Nat.le_of_ble_eq_true rfl) (Nat.le_of_ble_eq_true rfl)) (ay_rcvV at_0 rfl) (ev_44 hk271) ?_
        refine ay_q_loc (pc := 317) (L' := [some (.ref 0), none, none, some (.int x3), some (.int x4), some (.int y269), none, none]) fe_105_317 rfl ?_
        exact ay_q_less (ay_ls (ay_ls (ay_ls (ay_ls (ay_ls (ay_ls (ay_ls (ay_ls ay_l0)))))))) (ev_105_319 _ _ _ _ _ _ h)
    · rw [if_neg hc268] at h
      refine ay_q_neg (pc := 303) hc268 fe_105_303 rfl ?_
      refine ay_q_stk (pc := 306) (S' := [.int 0]) fe_105_306 rfl ?_
      refine ay_q_br (pc := 307) (pc' := 317) fe_105_307 rfl ?_
      refine ay_q_loc (pc := 317) (L' := [some (.ref 0), none, none, some (.int x3), some (.int x4), some (.int 0), none, none]) fe_105_317 rfl ?_
      exact ay_q_less (ay_ls (ay_ls (ay_ls (ay_ls (ay_ls (ay_ls (ay_ls (ay_ls ay_l0)))))))) (ev_105_319 _ _ _ _ _ _ h)
def fn_105_356 : Nat → Int32 → am_DD → Option ((Int32 × am_DD) ⊕ (Int32 × Int32 × am_DD))
  | 0, _, _ => none
  | n + 1, x2, D => (match fn_70 x2 2 D with | none => none | some (y173, D174) => (if ¬ y173 = 0 then (match fn_70 (x2 >>> (8 &&& 31)) 2 D174 with | none => none | some (y177, D178) => (if ¬ y177 = 0 then (match fn_70 (x2 >>> (1 &&& 31)) 3 D178 with | none => none | some (y181, D182) => (match fn_70 x2 2 D182 with | none => none | some (y184, D185) => (match fn_14 (5 + y184) D185 with | none => none | some (y187, k208, D188) => (if k208 = 0 then (match fn_70 x2 2 D188 with | none => none | some (y190, D191) => (match fn_88 y190 (1 + y181) D191 with | none => none | some (y193, k206, D194) => (if k206 = 0 then (if ¬ y193 = y187 then some (.inl (0, D194)) else (match fn_70 x2 2 D194 with | none => none | some (y197, D198) => (match fn_14 (5 + y197) D198 with | none => none | some (y200, k204, D201) => (if k204 = 0 then (if ¬ y200 = (1 + y181) then some (.inl (0, D201)) else some (.inl (1, D201))) else none)))) else none))) else none)))) else (match fn_70 (x2 >>> (1 &&& 31)) 40 D178 with | none => none | some (y210, D211) => (match fn_70 x2 2 D211 with | none => none | some (y213, D214) => (match fn_14 (5 + y213) D214 with | none => none | some (y216, k237, D217) => (if k237 = 0 then (match fn_70 x2 2 D217 with | none => none | some (y219, D220) => (match fn_88 y219 (1 + y210) D220 with | none => none | some (y222, k235, D223) => (if k235 = 0 then (if ¬ y222 = y216 then some (.inl (0, D223)) else (match fn_70 x2 2 D223 with | none => none | some (y226, D227) => (match fn_14 (5 + y226) D227 with | none => none | some (y229, k233, D230) => (if k233 = 0 then (if ¬ y229 = (1 + y210) then some (.inl (0, D230)) else some (.inl (1, D230))) else none)))) else none))) else none)))))) else (match fn_70 (x2 >>> (1 &&& 31)) 9 D174 with | none => none | some (y239, D240) => (match fn_70 x2 2 D240 with | none => none | some (y242, D243) => (match fn_14 (5 + y242) D243 with | none => none | some (y245, k266, D246) => (if k266 = 0 then (match fn_70 x2 2 D246 with | none => none | some (y248, D249) => (match fn_88 y248 (1 + y239) D249 with | none => none | some (y251, k264, D252) => (if k264 = 0 then (if ¬ y251 = y245 then some (.inl (0, D252)) else (match fn_70 x2 2 D252 with | none => none | some (y255, D256) => (match fn_14 (5 + y255) D256 with | none => none | some (y258, k262, D259) => (if k262 = 0 then (if ¬ y258 = (1 + y239) then some (.inl (0, D259)) else some (.inl (1, D259))) else none)))) else none))) else none))))))
set_option maxHeartbeats 4000000 in
theorem ev_105_356 : ∀ (n : Nat) (x2 : Int32) (D : am_DD) (x : (Int32 × am_DD) ⊕ (Int32 × Int32 × am_DD)), fn_105_356 n x2 D = some x → ay_tz 1 6 105 356 [some (.ref 0), none, some (.int x2), none, none, none, none, none] [] D (ay_ap x) := by
  intro n
  induction n with
  | zero => intro x2 D x h; cases h
  | succ n ih =>
    intro x2 D x h
    rw [fn_105_356] at h
    refine ay_q_stk (pc := 356) (S' := [.int 1]) fe_105_356 rfl ?_
    refine ay_q_loc (pc := 357) fe_105_357 rfl ?_
    refine ay_q_stk (pc := 358) (S' := [.int 1, .int x2, .int 1]) fe_105_358 rfl ?_
    refine ay_q_stk (pc := 359) (S' := [.int (x2 >>> (1 &&& 31)), .int 1]) fe_105_359 rfl ?_
    refine ay_q_loc (pc := 360) fe_105_360 rfl ?_
    refine ay_q_stk (pc := 361) (S' := [.int 2, .int x2, .int (x2 >>> (1 &&& 31)), .int 1]) fe_105_361 rfl ?_
    cases hk175 : fn_70 x2 2 D with
    | none => rw [hk175] at h; cases h
    | some z =>
      obtain ⟨y173, D174⟩ := z
      rw [hk175] at h
      dsimp only at h
      refine ay_q_call (pc := 362) (w := some (.int y173)) fe_105_362 (ay_args [.int x2, .int 2] [.int (x2 >>> (1 &&& 31)), .int 1] rfl rfl (Nat.le_of_ble_eq_true rfl) (Nat.le_of_ble_eq_true rfl)) rfl (ev_70 hk175) ?_
      by_cases hc176 : ¬ y173 = 0
      · rw [if_pos hc176] at h
        refine ay_q_pos (pc := 365) hc176 fe_105_365 rfl ?_
        refine ay_q_loc (pc := 373) fe_105_373 rfl ?_
        refine ay_q_stk (pc := 374) (S' := [.int 8, .int x2, .int (x2 >>> (1 &&& 31)), .int 1]) fe_105_374 rfl ?_
        refine ay_q_stk (pc := 376) (S' := [.int (x2 >>> (8 &&& 31)), .int (x2 >>> (1 &&& 31)), .int 1]) fe_105_376 rfl ?_
        refine ay_q_stk (pc := 377) (S' := [.int 2, .int (x2 >>> (8 &&& 31)), .int (x2 >>> (1 &&& 31)), .int 1]) fe_105_377 rfl ?_
        cases hk179 : fn_70 (x2 >>> (8 &&& 31)) 2 D174 with
        | none => rw [hk179] at h; cases h
        | some z =>
          obtain ⟨y177, D178⟩ := z
          rw [hk179] at h
          dsimp only at h
          refine ay_q_call (pc := 378) (w := some (.int y177)) fe_105_378 (ay_args [.int (x2 >>> (8 &&& 31)), .int 2] [.int (x2 >>> (1 &&& 31)), .int 1] rfl rfl (Nat.le_of_ble_eq_true rfl) (Nat.le_of_ble_eq_true rfl)) rfl (ev_70 hk179) ?_
          by_cases hc180 : ¬ y177 = 0
          · rw [if_pos hc180] at h
            refine ay_q_pos (pc := 381) hc180 fe_105_381 rfl ?_
            refine ay_q_stk (pc := 389) (S' := [.int 3, .int (x2 >>> (1 &&& 31)), .int 1]) fe_105_389 rfl ?_
            cases hk183 : fn_70 (x2 >>> (1 &&& 31)) 3 D178 with
            | none => rw [hk183] at h; cases h
            | some z =>
              obtain ⟨y181, D182⟩ := z
              rw [hk183] at h
              dsimp only at h
              refine ay_q_call (pc := 390) (w := some (.int y181)) fe_105_390 (ay_args [.int (x2 >>> (1 &&& 31)), .int 3] [.int 1] rfl rfl (Nat.le_of_ble_eq_true rfl) (Nat.le_of_ble_eq_true rfl)) rfl (ev_70 hk183) ?_
              refine ay_q_stk (pc := 393) (S' := [.int (1 + y181)]) fe_105_393 rfl ?_
              refine ay_q_loc (pc := 394) (L' := [some (.ref 0), none, some (.int x2), none, none, some (.int (1 + y181)), none, none]) fe_105_394 rfl ?_
              refine ay_q_loc (pc := 396) fe_105_396 rfl ?_
              refine ay_q_stk (pc := 397) (S' := [.int 5, .ref 0]) fe_105_397 rfl ?_
              refine ay_q_loc (pc := 398) fe_105_398 rfl ?_
              refine ay_q_stk (pc := 399) (S' := [.int 2, .int x2, .int 5, .ref 0]) fe_105_399 rfl ?_
              cases hk186 : fn_70 x2 2 D182 with
              | none => rw [hk186] at h; cases h
              | some z =>
                obtain ⟨y184, D185⟩ := z
                rw [hk186] at h
                dsimp only at h
                refine ay_q_call (pc := 400) (w := some (.int y184)) fe_105_400 (ay_args [.int x2, .int 2] [.int 5, .ref 0] rfl rfl (Nat.le_of_ble_eq_true rfl) (Nat.le_of_ble_eq_true rfl)) rfl (ev_70 hk186) ?_
                refine ay_q_stk (pc := 403) (S' := [.int (5 + y184), .ref 0]) fe_105_403 rfl ?_
                cases hk189 : fn_14 (5 + y184) D185 with
                | none => rw [hk189] at h; cases h
                | some z =>
                  obtain ⟨y187, k208, D188⟩ := z
                  rw [hk189] at h
                  dsimp only at h
                  by_cases hz209 : k208 = 0
                  case neg => rw [if_neg hz209] at h; cases h
                  rw [if_pos hz209] at h
                  subst hz209
                  refine ay_q_call (pc := 404) (w := some (.int y187)) fe_105_404 (ay_args [.ref 0, .int (5 + y184)] [] rfl rfl (Nat.le_of_ble_eq_true rfl) (Nat.le_of_ble_eq_true rfl)) (ay_rcvV at_0 rfl) (ev_14 hk189) ?_
                  refine ay_q_loc (pc := 407) (L' := [some (.ref 0), none, some (.int x2), none, none, some (.int (1 + y181)), some (.int y187), none]) fe_105_407 rfl ?_
                  refine ay_q_loc (pc := 409) fe_105_409 rfl ?_
                  refine ay_q_loc (pc := 410) fe_105_410 rfl ?_
                  refine ay_q_stk (pc := 411) (S' := [.int 2, .int x2, .ref 0]) fe_105_411 rfl ?_
                  cases hk192 : fn_70 x2 2 D188 with
                  | none => rw [hk192] at h; cases h
                  | some z =>
                    obtain ⟨y190, D191⟩ := z
                    rw [hk192] at h
                    dsimp only at h
                    refine ay_q_call (pc := 412) (w := some (.int y190)) fe_105_412 (ay_args [.int x2, .int 2] [.ref 0] rfl rfl (Nat.le_of_ble_eq_true rfl) (Nat.le_of_ble_eq_true rfl)) rfl (ev_70 hk192) ?_
                    refine ay_q_loc (pc := 415) fe_105_415 rfl ?_
                    cases hk195 : fn_88 y190 (1 + y181) D191 with
                    | none => rw [hk195] at h; cases h
                    | some z =>
                      obtain ⟨y193, k206, D194⟩ := z
                      rw [hk195] at h
                      dsimp only at h
                      by_cases hz207 : k206 = 0
                      case neg => rw [if_neg hz207] at h; cases h
                      rw [if_pos hz207] at h
                      subst hz207
                      refine ay_q_call (pc := 417) (w := some (.int y193)) fe_105_417 (ay_args [.ref 0, .int y190, .int (1 + y181)] [] rfl rfl (Nat.le_of_ble_eq_true rfl) (Nat.le_of_ble_eq_true rfl)) (ay_rcvV at_0 rfl) (ev_88 hk195) ?_
                      refine ay_q_loc (pc := 420) fe_105_420 rfl ?_
                      by_cases hc196 : ¬ y193 = y187
                      · rw [if_pos hc196] at h
                        refine ay_q_pos (pc := 422) hc196 fe_105_422 rfl ?_
                        refine ay_q_stk (pc := 445) (S' := [.int 0]) fe_105_445 rfl ?_
                        cases h
                        exact ay_q_iret fe_105_446 rfl rfl
                      · rw [if_neg hc196] at h
                        refine ay_q_neg (pc := 422) hc196 fe_105_422 rfl ?_
                        refine ay_q_loc (pc := 425) fe_105_425 rfl ?_
                        refine ay_q_stk (pc := 426) (S' := [.int 5, .ref 0]) fe_105_426 rfl ?_
                        refine ay_q_loc (pc := 427) fe_105_427 rfl ?_
                        refine ay_q_stk (pc := 428) (S' := [.int 2, .int x2, .int 5, .ref 0]) fe_105_428 rfl ?_
                        cases hk199 : fn_70 x2 2 D194 with
                        | none => rw [hk199] at h; cases h
                        | some z =>
                          obtain ⟨y197, D198⟩ := z
                          rw [hk199] at h
                          dsimp only at h
                          refine ay_q_call (pc := 429) (w := some (.int y197)) fe_105_429 (ay_args [.int x2, .int 2] [.int 5, .ref 0] rfl rfl (Nat.le_of_ble_eq_true rfl) (Nat.le_of_ble_eq_true rfl)) rfl (ev_70 hk199) ?_
                          refine ay_q_stk (pc := 432) (S' := [.int (5 + y197), .ref 0]) fe_105_432 rfl ?_
                          cases hk202 : fn_14 (5 + y197) D198 with
                          | none => rw [hk202] at h; cases h
                          | some z =>
                            obtain ⟨y200, k204, D201⟩ := z
                            rw [hk202] at h
                            dsimp only at h
                            by_cases hz205 : k204 = 0
                            case neg => rw [if_neg hz205] at h; cases h
                            rw [if_pos hz205] at h
                            subst hz205
                            refine ay_q_call (pc := 433) (w := some (.int y200)) fe_105_433 (ay_args [.ref 0, .int (5 + y197)] [] rfl rfl (Nat.le_of_ble_eq_true rfl) (Nat.le_of_ble_eq_true rfl)) (ay_rcvV at_0 rfl) (ev_14 hk202) ?_
                            refine ay_q_loc (pc := 436) fe_105_436 rfl ?_
                            by_cases hc203 : ¬ y200 = (1 + y181)
                            · rw [if_pos hc203] at h
                              refine ay_q_pos (pc := 438) hc203 fe_105_438 rfl ?_
                              refine ay_q_stk (pc := 445) (S' := [.int 0]) fe_105_445 rfl ?_
                              cases h
                              exact ay_q_iret fe_105_446 rfl rfl
                            · rw [if_neg hc203] at h
                              refine ay_q_neg (pc := 438) hc203 fe_105_438 rfl ?_
                              refine ay_q_stk (pc := 441) (S' := [.int 1]) fe_105_441 rfl ?_
                              refine ay_q_br (pc := 442) (pc' := 446) fe_105_442 rfl ?_
                              cases h
                              exact ay_q_iret fe_105_446 rfl rfl
          · rw [if_neg hc180] at h
            refine ay_q_neg (pc := 381) hc180 fe_105_381 rfl ?_
            refine ay_q_stk (pc := 384) (S' := [.int 40, .int (x2 >>> (1 &&& 31)), .int 1]) fe_105_384 rfl ?_
            refine ay_q_br (pc := 386) (pc' := 390) fe_105_386 rfl ?_
            cases hk212 : fn_70 (x2 >>> (1 &&& 31)) 40 D178 with
            | none => rw [hk212] at h; cases h
            | some z =>
              obtain ⟨y210, D211⟩ := z
              rw [hk212] at h
              dsimp only at h
              refine ay_q_call (pc := 390) (w := some (.int y210)) fe_105_390 (ay_args [.int (x2 >>> (1 &&& 31)), .int 40] [.int 1] rfl rfl (Nat.le_of_ble_eq_true rfl) (Nat.le_of_ble_eq_true rfl)) rfl (ev_70 hk212) ?_
              refine ay_q_stk (pc := 393) (S' := [.int (1 + y210)]) fe_105_393 rfl ?_
              refine ay_q_loc (pc := 394) (L' := [some (.ref 0), none, some (.int x2), none, none, some (.int (1 + y210)), none, none]) fe_105_394 rfl ?_
              refine ay_q_loc (pc := 396) fe_105_396 rfl ?_
              refine ay_q_stk (pc := 397) (S' := [.int 5, .ref 0]) fe_105_397 rfl ?_
              refine ay_q_loc (pc := 398) fe_105_398 rfl ?_
              refine ay_q_stk (pc := 399) (S' := [.int 2, .int x2, .int 5, .ref 0]) fe_105_399 rfl ?_
              cases hk215 : fn_70 x2 2 D211 with
              | none => rw [hk215] at h; cases h
              | some z =>
                obtain ⟨y213, D214⟩ := z
                rw [hk215] at h
                dsimp only at h
                refine ay_q_call (pc := 400) (w := some (.int y213)) fe_105_400 (ay_args [.int x2, .int 2] [.int 5, .ref 0] rfl rfl (Nat.le_of_ble_eq_true rfl) (Nat.le_of_ble_eq_true rfl)) rfl (ev_70 hk215) ?_
                refine ay_q_stk (pc := 403) (S' := [.int (5 + y213), .ref 0]) fe_105_403 rfl ?_
                cases hk218 : fn_14 (5 + y213) D214 with
                | none => rw [hk218] at h; cases h
                | some z =>
                  obtain ⟨y216, k237, D217⟩ := z
                  rw [hk218] at h
                  dsimp only at h
                  by_cases hz238 : k237 = 0
                  case neg => rw [if_neg hz238] at h; cases h
                  rw [if_pos hz238] at h
                  subst hz238
                  refine ay_q_call (pc := 404) (w := some (.int y216)) fe_105_404 (ay_args [.ref 0, .int (5 + y213)] [] rfl rfl (Nat.le_of_ble_eq_true rfl) (Nat.le_of_ble_eq_true rfl)) (ay_rcvV at_0 rfl) (ev_14 hk218) ?_
                  refine ay_q_loc (pc := 407) (L' := [some (.ref 0), none, some (.int x2), none, none, some (.int (1 + y210)), some (.int y216), none]) fe_105_407 rfl ?_
                  refine ay_q_loc (pc := 409) fe_105_409 rfl ?_
                  refine ay_q_loc (pc := 410) fe_105_410 rfl ?_
                  refine ay_q_stk (pc := 411) (S' := [.int 2, .int x2, .ref 0]) fe_105_411 rfl ?_
                  cases hk221 : fn_70 x2 2 D217 with
                  | none => rw [hk221] at h; cases h
                  | some z =>
                    obtain ⟨y219, D220⟩ := z
                    rw [hk221] at h
                    dsimp only at h
                    refine ay_q_call (pc := 412) (w := some (.int y219)) fe_105_412 (ay_args [.int x2, .int 2] [.ref 0] rfl rfl (Nat.le_of_ble_eq_true rfl) (Nat.le_of_ble_eq_true rfl)) rfl (ev_70 hk221) ?_
                    refine ay_q_loc (pc := 415) fe_105_415 rfl ?_
                    cases hk224 : fn_88 y219 (1 + y210) D220 with
                    | none => rw [hk224] at h; cases h
                    | some z =>
                      obtain ⟨y222, k235, D223⟩ := z
                      rw [hk224] at h
                      dsimp only at h
                      by_cases hz236 : k235 = 0
                      case neg => rw [if_neg hz236] at h; cases h
                      rw [if_pos hz236] at h
                      subst hz236
                      refine ay_q_call (pc := 417) (w := some (.int y222)) fe_105_417 (ay_args [.ref 0, .int y219, .int (1 + y210)] [] rfl rfl (Nat.le_of_ble_eq_true rfl) (Nat.le_of_ble_eq_true rfl)) (ay_rcvV at_0 rfl) (ev_88 hk224) ?_
                      refine ay_q_loc (pc := 420) fe_105_420 rfl ?_
                      by_cases hc225 : ¬ y222 = y216
                      · rw [if_pos hc225] at h
                        refine ay_q_pos (pc := 422) hc225 fe_105_422 rfl ?_
                        refine ay_q_stk (pc := 445) (S' := [.int 0]) fe_105_445 rfl ?_
                        cases h
                        exact ay_q_iret fe_105_446 rfl rfl
                      · rw [if_neg hc225] at h
                        refine ay_q_neg (pc := 422) hc225 fe_105_422 rfl ?_
                        refine ay_q_loc (pc := 425) fe_105_425 rfl ?_
                        refine ay_q_stk (pc := 426) (S' := [.int 5, .ref 0]) fe_105_426 rfl ?_
                        refine ay_q_loc (pc := 427) fe_105_427 rfl ?_
                        refine ay_q_stk (pc := 428) (S' := [.int 2, .int x2, .int 5, .ref 0]) fe_105_428 rfl ?_
                        cases hk228 : fn_70 x2 2 D223 with
                        | none => rw [hk228] at h; cases h
                        | some z =>
                          obtain ⟨y226, D227⟩ := z
                          rw [hk228] at h
                          dsimp only at h
                          refine ay_q_call (pc := 429) (w := some (.int y226)) fe_105_429 (ay_args [.int x2, .int 2] [.int 5, .ref 0] rfl rfl (Nat.le_of_ble_eq_true rfl) (Nat.le_of_ble_eq_true rfl)) rfl (ev_70 hk228) ?_
                          refine ay_q_stk (pc := 432) (S' := [.int (5 + y226), .ref 0]) fe_105_432 rfl ?_
                          cases hk231 : fn_14 (5 + y226) D227 with
                          | none => rw [hk231] at h; cases h
                          | some z =>
                            obtain ⟨y229, k233, D230⟩ := z
                            rw [hk231] at h
                            dsimp only at h
                            by_cases hz234 : k233 = 0
                            case neg => rw [if_neg hz234] at h; cases h
                            rw [if_pos hz234] at h
                            subst hz234
                            refine ay_q_call (pc := 433) (w := some (.int y229)) fe_105_433 (ay_args [.ref 0, .int (5 + y226)] [] rfl rfl (Nat.le_of_ble_eq_true rfl) (Nat.le_of_ble_eq_true rfl)) (ay_rcvV at_0 rfl) (ev_14 hk231) ?_
                            refine ay_q_loc (pc := 436) fe_105_436 rfl ?_
                            by_cases hc232 : ¬ y229 = (1 + y210)
                            · rw [if_pos hc232] at h
                              refine ay_q_pos (pc := 438) hc232 fe_105_438 rfl ?_
                              refine ay_q_stk (pc := 445) (S' := [.int 0]) fe_105_445 rfl ?_
                              cases h
                              exact ay_q_iret fe_105_446 rfl rfl
                            · rw [if_neg hc232] at h
                              refine ay_q_neg (pc := 438) hc232 fe_105_438 rfl ?_
                              refine ay_q_stk (pc := 441) (S' := [.int 1]) fe_105_441 rfl ?_
                              refine ay_q_br (pc := 442) (pc' := 446) fe_105_442 rfl ?_
                              cases h
                              exact ay_q_iret fe_105_446 rfl rfl
      · rw [if_neg hc176] at h
        refine ay_q_neg (pc := 365) hc176 fe_105_365 rfl ?_
        refine ay_q_stk (pc := 368) (S' := [.int 9, .int (x2 >>> (1 &&& 31)), .int 1]) fe_105_368 rfl ?_
        refine ay_q_br (pc := 370) (pc' := 390) fe_105_370 rfl ?_
        cases hk241 : fn_70 (x2 >>> (1 &&& 31)) 9 D174 with
        | none => rw [hk241] at h; cases h
        | some z =>
          obtain ⟨y239, D240⟩ := z
          rw [hk241] at h
          dsimp only at h
          refine ay_q_call (pc := 390) (w := some (.int y239)) fe_105_390 (ay_args [.int (x2 >>> (1 &&& 31)), .int 9] [.int 1] rfl rfl (Nat.le_of_ble_eq_true rfl) (Nat.le_of_ble_eq_true rfl)) rfl (ev_70 hk241) ?_
          refine ay_q_stk (pc := 393) (S' := [.int (1 + y239)]) fe_105_393 rfl ?_
          refine ay_q_loc (pc := 394) (L' := [some (.ref 0), none, some (.int x2), none, none, some (.int (1 + y239)), none, none]) fe_105_394 rfl ?_
          refine ay_q_loc (pc := 396) fe_105_396 rfl ?_
          refine ay_q_stk (pc := 397) (S' := [.int 5, .ref 0]) fe_105_397 rfl ?_
          refine ay_q_loc (pc := 398) fe_105_398 rfl ?_
          refine ay_q_stk (pc := 399) (S' := [.int 2, .int x2, .int 5, .ref 0]) fe_105_399 rfl ?_
          cases hk244 : fn_70 x2 2 D240 with
          | none => rw [hk244] at h; cases h
          | some z =>
            obtain ⟨y242, D243⟩ := z
            rw [hk244] at h
            dsimp only at h
            refine ay_q_call (pc := 400) (w := some (.int y242)) fe_105_400 (ay_args [.int x2, .int 2] [.int 5, .ref 0] rfl rfl (Nat.le_of_ble_eq_true rfl) (Nat.le_of_ble_eq_true rfl)) rfl (ev_70 hk244) ?_
            refine ay_q_stk (pc := 403) (S' := [.int (5 + y242), .ref 0]) fe_105_403 rfl ?_
            cases hk247 : fn_14 (5 + y242) D243 with
            | none => rw [hk247] at h; cases h
            | some z =>
              obtain ⟨y245, k266, D246⟩ := z
              rw [hk247] at h
              dsimp only at h
              by_cases hz267 : k266 = 0
              case neg => rw [if_neg hz267] at h; cases h
              rw [if_pos hz267] at h
              subst hz267
              refine ay_q_call (pc := 404) (w := some (.int y245)) fe_105_404 (ay_args [.ref 0, .int (5 + y242)] [] rfl rfl (Nat.le_of_ble_eq_true rfl) (Nat.le_of_ble_eq_true rfl)) (ay_rcvV at_0 rfl) (ev_14 hk247) ?_
              refine ay_q_loc (pc := 407) (L' := [some (.ref 0), none, some (.int x2), none, none, some (.int (1 + y239)), some (.int y245), none]) fe_105_407 rfl ?_
              refine ay_q_loc (pc := 409) fe_105_409 rfl ?_
              refine ay_q_loc (pc := 410) fe_105_410 rfl ?_
              refine ay_q_stk (pc := 411) (S' := [.int 2, .int x2, .ref 0]) fe_105_411 rfl ?_
              cases hk250 : fn_70 x2 2 D246 with
              | none => rw [hk250] at h; cases h
              | some z =>
                obtain ⟨y248, D249⟩ := z
                rw [hk250] at h
                dsimp only at h
                refine ay_q_call (pc := 412) (w := some (.int y248)) fe_105_412 (ay_args [.int x2, .int 2] [.ref 0] rfl rfl (Nat.le_of_ble_eq_true rfl) (Nat.le_of_ble_eq_true rfl)) rfl (ev_70 hk250) ?_
                refine ay_q_loc (pc := 415) fe_105_415 rfl ?_
                cases hk253 : fn_88 y248 (1 + y239) D249 with
                | none => rw [hk253] at h; cases h
                | some z =>
                  obtain ⟨y251, k264, D252⟩ := z
                  rw [hk253] at h
                  dsimp only at h
                  by_cases hz265 : k264 = 0
                  case neg => rw [if_neg hz265] at h; cases h
                  rw [if_pos hz265] at h
                  subst hz265
                  refine ay_q_call (pc := 417) (w := some (.int y251)) fe_105_417 (ay_args [.ref 0, .int y248, .int (1 + y239)] [] rfl rfl (Nat.le_of_ble_eq_true rfl) (Nat.le_of_ble_eq_true rfl)) (ay_rcvV at_0 rfl) (ev_88 hk253) ?_
                  refine ay_q_loc (pc := 420) fe_105_420 rfl ?_
                  by_cases hc254 : ¬ y251 = y245
                  · rw [if_pos hc254] at h
                    refine ay_q_pos (pc := 422) hc254 fe_105_422 rfl ?_
                    refine ay_q_stk (pc := 445) (S' := [.int 0]) fe_105_445 rfl ?_
                    cases h
                    exact ay_q_iret fe_105_446 rfl rfl
                  · rw [if_neg hc254] at h
                    refine ay_q_neg (pc := 422) hc254 fe_105_422 rfl ?_
                    refine ay_q_loc (pc := 425) fe_105_425 rfl ?_
                    refine ay_q_stk (pc := 426) (S' := [.int 5, .ref 0]) fe_105_426 rfl ?_
                    refine ay_q_loc (pc := 427) fe_105_427 rfl ?_
                    refine ay_q_stk (pc := 428) (S' := [.int 2, .int x2, .int 5, .ref 0]) fe_105_428 rfl ?_
                    cases hk257 : fn_70 x2 2 D252 with
                    | none => rw [hk257] at h; cases h
                    | some z =>
                      obtain ⟨y255, D256⟩ := z
                      rw [hk257] at h
                      dsimp only at h
                      refine ay_q_call (pc := 429) (w := some (.int y255)) fe_105_429 (ay_args [.int x2, .int 2] [.int 5, .ref 0] rfl rfl (Nat.le_of_ble_eq_true rfl) (Nat.le_of_ble_eq_true rfl)) rfl (ev_70 hk257) ?_
                      refine ay_q_stk (pc := 432) (S' := [.int (5 + y255), .ref 0]) fe_105_432 rfl ?_
                      cases hk260 : fn_14 (5 + y255) D256 with
                      | none => rw [hk260] at h; cases h
                      | some z =>
                        obtain ⟨y258, k262, D259⟩ := z
                        rw [hk260] at h
                        dsimp only at h
                        by_cases hz263 : k262 = 0
                        case neg => rw [if_neg hz263] at h; cases h
                        rw [if_pos hz263] at h
                        subst hz263
                        refine ay_q_call (pc := 433) (w := some (.int y258)) fe_105_433 (ay_args [.ref 0, .int (5 + y255)] [] rfl rfl (Nat.le_of_ble_eq_true rfl) (Nat.le_of_ble_eq_true rfl)) (ay_rcvV at_0 rfl) (ev_14 hk260) ?_
                        refine ay_q_loc (pc := 436) fe_105_436 rfl ?_
                        by_cases hc261 : ¬ y258 = (1 + y239)
                        · rw [if_pos hc261] at h
                          refine ay_q_pos (pc := 438) hc261 fe_105_438 rfl ?_
                          refine ay_q_stk (pc := 445) (S' := [.int 0]) fe_105_445 rfl ?_
                          cases h
                          exact ay_q_iret fe_105_446 rfl rfl
                        · rw [if_neg hc261] at h
                          refine ay_q_neg (pc := 438) hc261 fe_105_438 rfl ?_
                          refine ay_q_stk (pc := 441) (S' := [.int 1]) fe_105_441 rfl ?_
                          refine ay_q_br (pc := 442) (pc' := 446) fe_105_442 rfl ?_
                          cases h
                          exact ay_q_iret fe_105_446 rfl rfl
def fn_105_447 : Nat → Int32 → am_DD → Option ((Int32 × am_DD) ⊕ (Int32 × Int32 × am_DD))
  | 0, _, _ => none
  | n + 1, x2, D => (match fn_70 x2 5 D with | none => none | some (y136, D137) => (match fn_33 y136 0 D137 with | none => none | some (y139, k171, D140) => (if k171 = 0 then (match fn_14 2 D140 with | none => none | some (y142, k169, D143) => (if k169 = 0 then (match fn_70 x2 5 D143 with | none => none | some (y145, D146) => (match fn_90 y145 D146 with | none => none | some (y148, k167, D149) => (if k167 = 0 then (if ¬ y148 = y139 then some (.inl (0, D149)) else (match fn_14 2 D149 with | none => none | some (y152, k165, D153) => (if k165 = 0 then (if ¬ y152 = (y142 + y139) then some (.inl (0, D153)) else (match fn_70 x2 5 D153 with | none => none | some (y156, D157) => (match fn_33 y156 0 D157 with | none => none | some (y159, k163, D160) => (if k163 = 0 then (if ¬ y159 = 0 then some (.inl (0, D160)) else some (.inl (1, D160))) else none)))) else none))) else none))) else none)) else none)))
set_option maxHeartbeats 4000000 in
theorem ev_105_447 : ∀ (n : Nat) (x2 : Int32) (D : am_DD) (x : (Int32 × am_DD) ⊕ (Int32 × Int32 × am_DD)), fn_105_447 n x2 D = some x → ay_tz 1 6 105 447 [some (.ref 0), none, some (.int x2), none, none, none, none, none] [] D (ay_ap x) := by
  intro n
  induction n with
  | zero => intro x2 D x h; cases h
  | succ n ih =>
    intro x2 D x h
    rw [fn_105_447] at h
    refine ay_q_loc (pc := 447) fe_105_447 rfl ?_
    refine ay_q_loc (pc := 448) fe_105_448 rfl ?_
    refine ay_q_stk (pc := 449) (S' := [.int 5, .int x2, .ref 0]) fe_105_449 rfl ?_
    cases hk138 : fn_70 x2 5 D with
    | none => rw [hk138] at h; cases h
    | some z =>
      obtain ⟨y136, D137⟩ := z
      rw [hk138] at h
      dsimp only at h
      refine ay_q_call (pc := 450) (w := some (.int y136)) fe_105_450 (ay_args [.int x2, .int 5] [.ref 0] rfl rfl (Nat.le_of_ble_eq_true rfl) (Nat.le_of_ble_eq_true rfl)) rfl (ev_70 hk138) ?_
      refine ay_q_stk (pc := 453) (S' := [.int 0, .int y136, .ref 0]) fe_105_453 rfl ?_
      cases hk141 : fn_33 y136 0 D137 with
      | none => rw [hk141] at h; cases h
      | some z =>
        obtain ⟨y139, k171, D140⟩ := z
        rw [hk141] at h
        dsimp only at h
        by_cases hz172 : k171 = 0
        case neg => rw [if_neg hz172] at h; cases h
        rw [if_pos hz172] at h
        subst hz172
        refine ay_q_call (pc := 454) (w := some (.int y139)) fe_105_454 (ay_args [.ref 0, .int y136, .int 0] [] rfl rfl (Nat.le_of_ble_eq_true rfl) (Nat.le_of_ble_eq_true rfl)) (ay_rcvV at_0 rfl) (ev_33 hk141) ?_
        refine ay_q_loc (pc := 457) (L' := [some (.ref 0), none, some (.int x2), none, none, some (.int y139), none, none]) fe_105_457 rfl ?_
        refine ay_q_loc (pc := 459) fe_105_459 rfl ?_
        refine ay_q_stk (pc := 460) (S' := [.int 2, .ref 0]) fe_105_460 rfl ?_
        cases hk144 : fn_14 2 D140 with
        | none => rw [hk144] at h; cases h
        | some z =>
          obtain ⟨y142, k169, D143⟩ := z
          rw [hk144] at h
          dsimp only at h
          by_cases hz170 : k169 = 0
          case neg => rw [if_neg hz170] at h; cases h
          rw [if_pos hz170] at h
          subst hz170
          refine ay_q_call (pc := 461) (w := some (.int y142)) fe_105_461 (ay_args [.ref 0, .int 2] [] rfl rfl (Nat.le_of_ble_eq_true rfl) (Nat.le_of_ble_eq_true rfl)) (ay_rcvV at_0 rfl) (ev_14 hk144) ?_
          refine ay_q_loc (pc := 464) (L' := [some (.ref 0), none, some (.int x2), none, none, some (.int y139), some (.int y142), none]) fe_105_464 rfl ?_
          refine ay_q_loc (pc := 466) fe_105_466 rfl ?_
          refine ay_q_loc (pc := 467) fe_105_467 rfl ?_
          refine ay_q_stk (pc := 468) (S' := [.int 5, .int x2, .ref 0]) fe_105_468 rfl ?_
          cases hk147 : fn_70 x2 5 D143 with
          | none => rw [hk147] at h; cases h
          | some z =>
            obtain ⟨y145, D146⟩ := z
            rw [hk147] at h
            dsimp only at h
            refine ay_q_call (pc := 469) (w := some (.int y145)) fe_105_469 (ay_args [.int x2, .int 5] [.ref 0] rfl rfl (Nat.le_of_ble_eq_true rfl) (Nat.le_of_ble_eq_true rfl)) rfl (ev_70 hk147) ?_
            cases hk150 : fn_90 y145 D146 with
            | none => rw [hk150] at h; cases h
            | some z =>
              obtain ⟨y148, k167, D149⟩ := z
              rw [hk150] at h
              dsimp only at h
              by_cases hz168 : k167 = 0
              case neg => rw [if_neg hz168] at h; cases h
              rw [if_pos hz168] at h
              subst hz168
              refine ay_q_call (pc := 472) (w := some (.int y148)) fe_105_472 (ay_args [.ref 0, .int y145] [] rfl rfl (Nat.le_of_ble_eq_true rfl) (Nat.le_of_ble_eq_true rfl)) (ay_rcvV at_0 rfl) (ev_90 hk150) ?_
              refine ay_q_loc (pc := 475) fe_105_475 rfl ?_
              by_cases hc151 : ¬ y148 = y139
              · rw [if_pos hc151] at h
                refine ay_q_pos (pc := 477) hc151 fe_105_477 rfl ?_
                refine ay_q_stk (pc := 510) (S' := [.int 0]) fe_105_510 rfl ?_
                cases h
                exact ay_q_iret fe_105_511 rfl rfl
              · rw [if_neg hc151] at h
                refine ay_q_neg (pc := 477) hc151 fe_105_477 rfl ?_
                refine ay_q_loc (pc := 480) fe_105_480 rfl ?_
                refine ay_q_stk (pc := 481) (S' := [.int 2, .ref 0]) fe_105_481 rfl ?_
                cases hk154 : fn_14 2 D149 with
                | none => rw [hk154] at h; cases h
                | some z =>
                  obtain ⟨y152, k165, D153⟩ := z
                  rw [hk154] at h
                  dsimp only at h
                  by_cases hz166 : k165 = 0
                  case neg => rw [if_neg hz166] at h; cases h
                  rw [if_pos hz166] at h
                  subst hz166
                  refine ay_q_call (pc := 482) (w := some (.int y152)) fe_105_482 (ay_args [.ref 0, .int 2] [] rfl rfl (Nat.le_of_ble_eq_true rfl) (Nat.le_of_ble_eq_true rfl)) (ay_rcvV at_0 rfl) (ev_14 hk154) ?_
                  refine ay_q_loc (pc := 485) fe_105_485 rfl ?_
                  refine ay_q_loc (pc := 487) fe_105_487 rfl ?_
                  refine ay_q_stk (pc := 489) (S' := [.int (y142 + y139), .int y152]) fe_105_489 rfl ?_
                  by_cases hc155 : ¬ y152 = (y142 + y139)
                  · rw [if_pos hc155] at h
                    refine ay_q_pos (pc := 490) hc155 fe_105_490 rfl ?_
                    refine ay_q_stk (pc := 510) (S' := [.int 0]) fe_105_510 rfl ?_
                    cases h
                    exact ay_q_iret fe_105_511 rfl rfl
                  · rw [if_neg hc155] at h
                    refine ay_q_neg (pc := 490) hc155 fe_105_490 rfl ?_
                    refine ay_q_loc (pc := 493) fe_105_493 rfl ?_
                    refine ay_q_loc (pc := 494) fe_105_494 rfl ?_
                    refine ay_q_stk (pc := 495) (S' := [.int 5, .int x2, .ref 0]) fe_105_495 rfl ?_
                    cases hk158 : fn_70 x2 5 D153 with
                    | none => rw [hk158] at h; cases h
                    | some z =>
                      obtain ⟨y156, D157⟩ := z
                      rw [hk158] at h
                      dsimp only at h
                      refine ay_q_call (pc := 496) (w := some (.int y156)) fe_105_496 (ay_args [.int x2, .int 5] [.ref 0] rfl rfl (Nat.le_of_ble_eq_true rfl) (Nat.le_of_ble_eq_true rfl)) rfl (ev_70 hk158) ?_
                      refine ay_q_stk (pc := 499) (S' := [.int 0, .int y156, .ref 0]) fe_105_499 rfl ?_
                      cases hk161 : fn_33 y156 0 D157 with
                      | none => rw [hk161] at h; cases h
                      | some z =>
                        obtain ⟨y159, k163, D160⟩ := z
                        rw [hk161] at h
                        dsimp only at h
                        by_cases hz164 : k163 = 0
                        case neg => rw [if_neg hz164] at h; cases h
                        rw [if_pos hz164] at h
                        subst hz164
                        refine ay_q_call (pc := 500) (w := some (.int y159)) fe_105_500 (ay_args [.ref 0, .int y156, .int 0] [] rfl rfl (Nat.le_of_ble_eq_true rfl) (Nat.le_of_ble_eq_true rfl)) (ay_rcvV at_0 rfl) (ev_33 hk161) ?_
                        by_cases hc162 : ¬ y159 = 0
                        · rw [if_pos hc162] at h
                          refine ay_q_pos (pc := 503) hc162 fe_105_503 rfl ?_
                          refine ay_q_stk (pc := 510) (S' := [.int 0]) fe_105_510 rfl ?_
                          cases h
                          exact ay_q_iret fe_105_511 rfl rfl
                        · rw [if_neg hc162] at h
                          refine ay_q_neg (pc := 503) hc162 fe_105_503 rfl ?_
                          refine ay_q_stk (pc := 506) (S' := [.int 1]) fe_105_506 rfl ?_
                          refine ay_q_br (pc := 507) (pc' := 511) fe_105_507 rfl ?_
                          cases h
                          exact ay_q_iret fe_105_511 rfl rfl
def fn_105_512 : Nat → Int32 → am_DD → Option ((Int32 × am_DD) ⊕ (Int32 × Int32 × am_DD))
  | 0, _, _ => none
  | n + 1, x2, D => (match fn_14 4 D with | none => none | some (y104, k134, D105) => (if k134 = 0 then (match fn_70 x2 40 D105 with | none => none | some (y107, D108) => (match fn_94 (1 + y107) D108 with | none => none | some (y110, D111) => (match fn_70 x2 40 D111 with | none => none | some (y113, D114) => (if ((y104 + 1) + y113) ≤ 200 then (match fn_70 x2 40 D114 with | none => none | some (y117, D118) => (if ¬ y110 = ((y104 + 1) + y117) then some (.inl (0, D118)) else (match fn_14 4 D118 with | none => none | some (y121, k125, D122) => (if k125 = 0 then (if ¬ y121 = y110 then some (.inl (0, D122)) else some (.inl (1, D122))) else none)))) else (if ¬ y110 = (-7002) then some (.inl (0, D114)) else (match fn_14 4 D114 with | none => none | some (y128, k132, D129) => (if k132 = 0 then (if ¬ y128 = y104 then some (.inl (0, D129)) else some (.inl (1, D129))) else none))))))) else none))
set_option maxHeartbeats 4000000 in
theorem ev_105_512 : ∀ (n : Nat) (x2 : Int32) (D : am_DD) (x : (Int32 × am_DD) ⊕ (Int32 × Int32 × am_DD)), fn_105_512 n x2 D = some x → ay_tz 1 6 105 512 [some (.ref 0), none, some (.int x2), none, none, none, none, none] [] D (ay_ap x) := by
  intro n
  induction n with
  | zero => intro x2 D x h; cases h
  | succ n ih =>
    intro x2 D x h
    rw [fn_105_512] at h
    refine ay_q_loc (pc := 512) fe_105_512 rfl ?_
    refine ay_q_stk (pc := 513) (S' := [.int 4, .ref 0]) fe_105_513 rfl ?_
    cases hk106 : fn_14 4 D with
    | none => rw [hk106] at h; cases h
    | some z =>
      obtain ⟨y104, k134, D105⟩ := z
      rw [hk106] at h
      dsimp only at h
      by_cases hz135 : k134 = 0
      case neg => rw [if_neg hz135] at h; cases h
      rw [if_pos hz135] at h
      subst hz135
      refine ay_q_call (pc := 514) (w := some (.int y104)) fe_105_514 (ay_args [.ref 0, .int 4] [] rfl rfl (Nat.le_of_ble_eq_true rfl) (Nat.le_of_ble_eq_true rfl)) (ay_rcvV at_0 rfl) (ev_14 hk106) ?_
      refine ay_q_loc (pc := 517) (L' := [some (.ref 0), none, some (.int x2), none, none, some (.int y104), none, none]) fe_105_517 rfl ?_
      refine ay_q_loc (pc := 519) fe_105_519 rfl ?_
      refine ay_q_stk (pc := 520) (S' := [.int 1, .ref 0]) fe_105_520 rfl ?_
      refine ay_q_loc (pc := 521) fe_105_521 rfl ?_
      refine ay_q_stk (pc := 522) (S' := [.int 40, .int x2, .int 1, .ref 0]) fe_105_522 rfl ?_
      cases hk109 : fn_70 x2 40 D105 with
      | none => rw [hk109] at h; cases h
      | some z =>
        obtain ⟨y107, D108⟩ := z
        rw [hk109] at h
        dsimp only at h
        refine ay_q_call (pc := 524) (w := some (.int y107)) fe_105_524 (ay_args [.int x2, .int 40] [.int 1, .ref 0] rfl rfl (Nat.le_of_ble_eq_true rfl) (Nat.le_of_ble_eq_true rfl)) rfl (ev_70 hk109) ?_
        refine ay_q_stk (pc := 527) (S' := [.int (1 + y107), .ref 0]) fe_105_527 rfl ?_
        cases hk112 : fn_94 (1 + y107) D108 with
        | none => rw [hk112] at h; cases h
        | some z =>
          obtain ⟨y110, D111⟩ := z
          rw [hk112] at h
          dsimp only at h
          refine ay_q_callC (pc := 528) (w := some (.int y110)) fe_105_528 (ay_args [.ref 0, .int (1 + y107)] [] rfl rfl (Nat.le_of_ble_eq_true rfl) (Nat.le_of_ble_eq_true rfl)) rfl (ev_94 hk112) ?_
          refine ay_q_loc (pc := 531) (L' := [some (.ref 0), none, some (.int x2), none, none, some (.int y104), some (.int y110), none]) fe_105_531 rfl ?_
          refine ay_q_loc (pc := 533) fe_105_533 rfl ?_
          refine ay_q_stk (pc := 535) (S' := [.int 1, .int y104]) fe_105_535 rfl ?_
          refine ay_q_stk (pc := 536) (S' := [.int (y104 + 1)]) fe_105_536 rfl ?_
          refine ay_q_loc (pc := 537) fe_105_537 rfl ?_
          refine ay_q_stk (pc := 538) (S' := [.int 40, .int x2, .int (y104 + 1)]) fe_105_538 rfl ?_
          cases hk115 : fn_70 x2 40 D111 with
          | none => rw [hk115] at h; cases h
          | some z =>
            obtain ⟨y113, D114⟩ := z
            rw [hk115] at h
            dsimp only at h
            refine ay_q_call (pc := 540) (w := some (.int y113)) fe_105_540 (ay_args [.int x2, .int 40] [.int (y104 + 1)] rfl rfl (Nat.le_of_ble_eq_true rfl) (Nat.le_of_ble_eq_true rfl)) rfl (ev_70 hk115) ?_
            refine ay_q_stk (pc := 543) (S' := [.int ((y104 + 1) + y113)]) fe_105_543 rfl ?_
            refine ay_q_stk (pc := 544) (S' := [.int 200, .int ((y104 + 1) + y113)]) fe_105_544 rfl ?_
            by_cases hc116 : ((y104 + 1) + y113) ≤ 200
            · rw [if_pos hc116] at h
              refine ay_q_pos (pc := 547) hc116 fe_105_547 rfl ?_
              refine ay_q_loc (pc := 576) fe_105_576 rfl ?_
              refine ay_q_loc (pc := 578) fe_105_578 rfl ?_
              refine ay_q_stk (pc := 580) (S' := [.int 1, .int y104, .int y110]) fe_105_580 rfl ?_
              refine ay_q_stk (pc := 581) (S' := [.int (y104 + 1), .int y110]) fe_105_581 rfl ?_
              refine ay_q_loc (pc := 582) fe_105_582 rfl ?_
              refine ay_q_stk (pc := 583) (S' := [.int 40, .int x2, .int (y104 + 1), .int y110]) fe_105_583 rfl ?_
              cases hk119 : fn_70 x2 40 D114 with
              | none => rw [hk119] at h; cases h
              | some z =>
                obtain ⟨y117, D118⟩ := z
                rw [hk119] at h
                dsimp only at h
                refine ay_q_call (pc := 585) (w := some (.int y117)) fe_105_585 (ay_args [.int x2, .int 40] [.int (y104 + 1), .int y110] rfl rfl (Nat.le_of_ble_eq_true rfl) (Nat.le_of_ble_eq_true rfl)) rfl (ev_70 hk119) ?_
                refine ay_q_stk (pc := 588) (S' := [.int ((y104 + 1) + y117), .int y110]) fe_105_588 rfl ?_
                by_cases hc120 : ¬ y110 = ((y104 + 1) + y117)
                · rw [if_pos hc120] at h
                  refine ay_q_pos (pc := 589) hc120 fe_105_589 rfl ?_
                  refine ay_q_stk (pc := 606) (S' := [.int 0]) fe_105_606 rfl ?_
                  cases h
                  exact ay_q_iret fe_105_607 rfl rfl
                · rw [if_neg hc120] at h
                  refine ay_q_neg (pc := 589) hc120 fe_105_589 rfl ?_
                  refine ay_q_loc (pc := 592) fe_105_592 rfl ?_
                  refine ay_q_stk (pc := 593) (S' := [.int 4, .ref 0]) fe_105_593 rfl ?_
                  cases hk123 : fn_14 4 D118 with
                  | none => rw [hk123] at h; cases h
                  | some z =>
                    obtain ⟨y121, k125, D122⟩ := z
                    rw [hk123] at h
                    dsimp only at h
                    by_cases hz126 : k125 = 0
                    case neg => rw [if_neg hz126] at h; cases h
                    rw [if_pos hz126] at h
                    subst hz126
                    refine ay_q_call (pc := 594) (w := some (.int y121)) fe_105_594 (ay_args [.ref 0, .int 4] [] rfl rfl (Nat.le_of_ble_eq_true rfl) (Nat.le_of_ble_eq_true rfl)) (ay_rcvV at_0 rfl) (ev_14 hk123) ?_
                    refine ay_q_loc (pc := 597) fe_105_597 rfl ?_
                    by_cases hc124 : ¬ y121 = y110
                    · rw [if_pos hc124] at h
                      refine ay_q_pos (pc := 599) hc124 fe_105_599 rfl ?_
                      refine ay_q_stk (pc := 606) (S' := [.int 0]) fe_105_606 rfl ?_
                      cases h
                      exact ay_q_iret fe_105_607 rfl rfl
                    · rw [if_neg hc124] at h
                      refine ay_q_neg (pc := 599) hc124 fe_105_599 rfl ?_
                      refine ay_q_stk (pc := 602) (S' := [.int 1]) fe_105_602 rfl ?_
                      refine ay_q_br (pc := 603) (pc' := 607) fe_105_603 rfl ?_
                      cases h
                      exact ay_q_iret fe_105_607 rfl rfl
            · rw [if_neg hc116] at h
              refine ay_q_neg (pc := 547) hc116 fe_105_547 rfl ?_
              refine ay_q_loc (pc := 550) fe_105_550 rfl ?_
              refine ay_q_stk (pc := 552) (S' := [.int (-7002), .int y110]) fe_105_552 rfl ?_
              by_cases hc127 : ¬ y110 = (-7002)
              · rw [if_pos hc127] at h
                refine ay_q_pos (pc := 555) hc127 fe_105_555 rfl ?_
                refine ay_q_stk (pc := 572) (S' := [.int 0]) fe_105_572 rfl ?_
                refine ay_q_br (pc := 573) (pc' := 607) fe_105_573 rfl ?_
                cases h
                exact ay_q_iret fe_105_607 rfl rfl
              · rw [if_neg hc127] at h
                refine ay_q_neg (pc := 555) hc127 fe_105_555 rfl ?_
                refine ay_q_loc (pc := 558) fe_105_558 rfl ?_
                refine ay_q_stk (pc := 559) (S' := [.int 4, .ref 0]) fe_105_559 rfl ?_
                cases hk130 : fn_14 4 D114 with
                | none => rw [hk130] at h; cases h
                | some z =>
                  obtain ⟨y128, k132, D129⟩ := z
                  rw [hk130] at h
                  dsimp only at h
                  by_cases hz133 : k132 = 0
                  case neg => rw [if_neg hz133] at h; cases h
                  rw [if_pos hz133] at h
                  subst hz133
                  refine ay_q_call (pc := 560) (w := some (.int y128)) fe_105_560 (ay_args [.ref 0, .int 4] [] rfl rfl (Nat.le_of_ble_eq_true rfl) (Nat.le_of_ble_eq_true rfl)) (ay_rcvV at_0 rfl) (ev_14 hk130) ?_
                  refine ay_q_loc (pc := 563) fe_105_563 rfl ?_
                  by_cases hc131 : ¬ y128 = y104
                  · rw [if_pos hc131] at h
                    refine ay_q_pos (pc := 565) hc131 fe_105_565 rfl ?_
                    refine ay_q_stk (pc := 572) (S' := [.int 0]) fe_105_572 rfl ?_
                    refine ay_q_br (pc := 573) (pc' := 607) fe_105_573 rfl ?_
                    cases h
                    exact ay_q_iret fe_105_607 rfl rfl
                  · rw [if_neg hc131] at h
                    refine ay_q_neg (pc := 565) hc131 fe_105_565 rfl ?_
                    refine ay_q_stk (pc := 568) (S' := [.int 1]) fe_105_568 rfl ?_
                    refine ay_q_br (pc := 569) (pc' := 607) fe_105_569 rfl ?_
                    cases h
                    exact ay_q_iret fe_105_607 rfl rfl
def fn_105_608 : Nat → Int32 → am_DD → Option ((Int32 × am_DD) ⊕ (Int32 × Int32 × am_DD))
  | 0, _, _ => none
  | n + 1, x2, D => (match fn_70 (x2 >>> (11 &&& 31)) 2 D with | none => none | some (y86, D87) => (if ¬ y86 = 0 then (match fn_70 x2 40 D87 with | none => none | some (y90, D91) => (match fn_66 y90 D91 with | none => none | some (y93, D94) => (if ay_isb y93 then some (.inl (y93, D94)) else none))) else (match fn_70 x2 1001 D87 with | none => none | some (y97, D98) => (match fn_66 y97 D98 with | none => none | some (y100, D101) => (if ay_isb y100 then some (.inl (y100, D101)) else none)))))
set_option maxHeartbeats 4000000 in
theorem ev_105_608 : ∀ (n : Nat) (x2 : Int32) (D : am_DD) (x : (Int32 × am_DD) ⊕ (Int32 × Int32 × am_DD)), fn_105_608 n x2 D = some x → ay_tz 1 6 105 608 [some (.ref 0), none, some (.int x2), none, none, none, none, none] [] D (ay_ap x) := by
  intro n
  induction n with
  | zero => intro x2 D x h; cases h
  | succ n ih =>
    intro x2 D x h
    rw [fn_105_608] at h
    refine ay_q_loc (pc := 608) fe_105_608 rfl ?_
    refine ay_q_loc (pc := 609) fe_105_609 rfl ?_
    refine ay_q_loc (pc := 610) fe_105_610 rfl ?_
    refine ay_q_stk (pc := 611) (S' := [.int 11, .int x2, .int x2, .ref 0]) fe_105_611 rfl ?_
    refine ay_q_stk (pc := 613) (S' := [.int (x2 >>> (11 &&& 31)), .int x2, .ref 0]) fe_105_613 rfl ?_
    refine ay_q_stk (pc := 614) (S' := [.int 2, .int (x2 >>> (11 &&& 31)), .int x2, .ref 0]) fe_105_614 rfl ?_
    cases hk88 : fn_70 (x2 >>> (11 &&& 31)) 2 D with
    | none => rw [hk88] at h; cases h
    | some z =>
      obtain ⟨y86, D87⟩ := z
      rw [hk88] at h
      dsimp only at h
      refine ay_q_call (pc := 615) (w := some (.int y86)) fe_105_615 (ay_args [.int (x2 >>> (11 &&& 31)), .int 2] [.int x2, .ref 0] rfl rfl (Nat.le_of_ble_eq_true rfl) (Nat.le_of_ble_eq_true rfl)) rfl (ev_70 hk88) ?_
      by_cases hc89 : ¬ y86 = 0
      · rw [if_pos hc89] at h
        refine ay_q_pos (pc := 618) hc89 fe_105_618 rfl ?_
        refine ay_q_stk (pc := 627) (S' := [.int 40, .int x2, .ref 0]) fe_105_627 rfl ?_
        cases hk92 : fn_70 x2 40 D87 with
        | none => rw [hk92] at h; cases h
        | some z =>
          obtain ⟨y90, D91⟩ := z
          rw [hk92] at h
          dsimp only at h
          refine ay_q_call (pc := 629) (w := some (.int y90)) fe_105_629 (ay_args [.int x2, .int 40] [.ref 0] rfl rfl (Nat.le_of_ble_eq_true rfl) (Nat.le_of_ble_eq_true rfl)) rfl (ev_70 hk92) ?_
          cases hk95 : fn_66 y90 D91 with
          | none => rw [hk95] at h; cases h
          | some z =>
            obtain ⟨y93, D94⟩ := z
            rw [hk95] at h
            dsimp only at h
            refine ay_q_call (pc := 632) (w := some (.int y93)) fe_105_632 (ay_args [.ref 0, .int y90] [] rfl rfl (Nat.le_of_ble_eq_true rfl) (Nat.le_of_ble_eq_true rfl)) rfl (ev_66 hk95) ?_
            by_cases hn96 : ay_isb y93
            · rw [if_pos hn96] at h
              cases h
              exact ay_q_zret fe_105_635 rfl hn96
            · rw [if_neg hn96] at h; cases h
      · rw [if_neg hc89] at h
        refine ay_q_neg (pc := 618) hc89 fe_105_618 rfl ?_
        refine ay_q_stk (pc := 621) (S' := [.int 1001, .int x2, .ref 0]) fe_105_621 rfl ?_
        refine ay_q_br (pc := 624) (pc' := 629) fe_105_624 rfl ?_
        cases hk99 : fn_70 x2 1001 D87 with
        | none => rw [hk99] at h; cases h
        | some z =>
          obtain ⟨y97, D98⟩ := z
          rw [hk99] at h
          dsimp only at h
          refine ay_q_call (pc := 629) (w := some (.int y97)) fe_105_629 (ay_args [.int x2, .int 1001] [.ref 0] rfl rfl (Nat.le_of_ble_eq_true rfl) (Nat.le_of_ble_eq_true rfl)) rfl (ev_70 hk99) ?_
          cases hk102 : fn_66 y97 D98 with
          | none => rw [hk102] at h; cases h
          | some z =>
            obtain ⟨y100, D101⟩ := z
            rw [hk102] at h
            dsimp only at h
            refine ay_q_call (pc := 632) (w := some (.int y100)) fe_105_632 (ay_args [.ref 0, .int y97] [] rfl rfl (Nat.le_of_ble_eq_true rfl) (Nat.le_of_ble_eq_true rfl)) rfl (ev_66 hk102) ?_
            by_cases hn103 : ay_isb y100
            · rw [if_pos hn103] at h
              cases h
              exact ay_q_zret fe_105_635 rfl hn103
            · rw [if_neg hn103] at h; cases h
def fn_105_636 : Nat → Int32 → am_DD → Option ((Int32 × am_DD) ⊕ (Int32 × Int32 × am_DD))
  | 0, _, _ => none
  | n + 1, x2, D => (match fn_70 x2 3 D with | none => none | some (y79, D80) => (if 0 < y79 then some (.inl (1, D80)) else (match fn_70 (x2 >>> (2 &&& 31)) 40 D80 with | none => none | some (y83, D84) => some (.inr ((1 + y83), (x2 >>> (4 &&& 31)), D84)))))
set_option maxHeartbeats 4000000 in
theorem ev_105_636 : ∀ (n : Nat) (x2 : Int32) (D : am_DD) (x : (Int32 × am_DD) ⊕ (Int32 × Int32 × am_DD)), fn_105_636 n x2 D = some x → ay_tz 1 6 105 636 [some (.ref 0), none, some (.int x2), none, none, none, none, none] [] D (ay_ap x) := by
  intro n
  induction n with
  | zero => intro x2 D x h; cases h
  | succ n ih =>
    intro x2 D x h
    rw [fn_105_636] at h
    refine ay_q_loc (pc := 636) fe_105_636 rfl ?_
    refine ay_q_stk (pc := 637) (S' := [.int 3, .int x2]) fe_105_637 rfl ?_
    cases hk81 : fn_70 x2 3 D with
    | none => rw [hk81] at h; cases h
    | some z =>
      obtain ⟨y79, D80⟩ := z
      rw [hk81] at h
      dsimp only at h
      refine ay_q_call (pc := 638) (w := some (.int y79)) fe_105_638 (ay_args [.int x2, .int 3] [] rfl rfl (Nat.le_of_ble_eq_true rfl) (Nat.le_of_ble_eq_true rfl)) rfl (ev_70 hk81) ?_
      by_cases hc82 : 0 < y79
      · rw [if_pos hc82] at h
        refine ay_q_pos (pc := 641) hc82 fe_105_641 rfl ?_
        refine ay_q_stk (pc := 664) (S' := [.int 1]) fe_105_664 rfl ?_
        refine ay_q_br (pc := 665) (pc' := 669) fe_105_665 rfl ?_
        cases h
        exact ay_q_iret fe_105_669 rfl rfl
      · rw [if_neg hc82] at h
        refine ay_q_neg (pc := 641) hc82 fe_105_641 rfl ?_
        refine ay_q_loc (pc := 644) fe_105_644 rfl ?_
        refine ay_q_stk (pc := 645) (S' := [.int 1, .ref 0]) fe_105_645 rfl ?_
        refine ay_q_loc (pc := 646) fe_105_646 rfl ?_
        refine ay_q_stk (pc := 647) (S' := [.int 2, .int x2, .int 1, .ref 0]) fe_105_647 rfl ?_
        refine ay_q_stk (pc := 648) (S' := [.int (x2 >>> (2 &&& 31)), .int 1, .ref 0]) fe_105_648 rfl ?_
        refine ay_q_stk (pc := 649) (S' := [.int 40, .int (x2 >>> (2 &&& 31)), .int 1, .ref 0]) fe_105_649 rfl ?_
        cases hk85 : fn_70 (x2 >>> (2 &&& 31)) 40 D80 with
        | none => rw [hk85] at h; cases h
        | some z =>
          obtain ⟨y83, D84⟩ := z
          rw [hk85] at h
          dsimp only at h
          refine ay_q_call (pc := 651) (w := some (.int y83)) fe_105_651 (ay_args [.int (x2 >>> (2 &&& 31)), .int 40] [.int 1, .ref 0] rfl rfl (Nat.le_of_ble_eq_true rfl) (Nat.le_of_ble_eq_true rfl)) rfl (ev_70 hk85) ?_
          refine ay_q_stk (pc := 654) (S' := [.int (1 + y83), .ref 0]) fe_105_654 rfl ?_
          refine ay_q_loc (pc := 655) fe_105_655 rfl ?_
          refine ay_q_stk (pc := 656) (S' := [.int 4, .int x2, .int (1 + y83), .ref 0]) fe_105_656 rfl ?_
          refine ay_q_stk (pc := 657) (S' := [.int (x2 >>> (4 &&& 31)), .int (1 + y83), .ref 0]) fe_105_657 rfl ?_
          cases h
          exact ay_q_lo fe_105_658 (by decide) rfl
def fn_105_670 : Nat → Int32 → am_DD → Option ((Int32 × am_DD) ⊕ (Int32 × Int32 × am_DD))
  | 0, _, _ => none
  | n + 1, x2, D => (match fn_14 9 D with | none => none | some (y25, k77, D26) => (if k77 = 0 then (match fn_14 0 D26 with | none => none | some (y28, k75, D29) => (if k75 = 0 then (match fn_70 (x2 >>> (8 &&& 31)) 3 D29 with | none => none | some (y31, D32) => (if ¬ y31 = 0 then (match fn_70 x2 5 D32 with | none => none | some (y35, D36) => (match fn_103 (1 + y35) D36 with | none => none | some (y38, k53, D39) => (if k53 = 0 then (match fn_14 9 D39 with | none => none | some (y41, k51, D42) => (if k51 = 0 then (if ¬ y38 = (y41 - y25) then some (.inl (0, D42)) else (match fn_14 0 D42 with | none => none | some (y45, k49, D46) => (if k49 = 0 then (if ¬ y45 = (y28 + (1 + y35)) then some (.inl (0, D46)) else some (.inl (1, D46))) else none))) else none)) else none))) else (match fn_70 x2 50 D32 with | none => none | some (y55, D56) => (match fn_103 (1 + y55) D56 with | none => none | some (y58, k73, D59) => (if k73 = 0 then (match fn_14 9 D59 with | none => none | some (y61, k71, D62) => (if k71 = 0 then (if ¬ y58 = (y61 - y25) then some (.inl (0, D62)) else (match fn_14 0 D62 with | none => none | some (y65, k69, D66) => (if k69 = 0 then (if ¬ y65 = (y28 + (1 + y55)) then some (.inl (0, D66)) else some (.inl (1, D66))) else none))) else none)) else none))))) else none)) else none))
set_option maxHeartbeats 4000000 in
theorem ev_105_670 : ∀ (n : Nat) (x2 : Int32) (D : am_DD) (x : (Int32 × am_DD) ⊕ (Int32 × Int32 × am_DD)), fn_105_670 n x2 D = some x → ay_tz 1 6 105 670 [some (.ref 0), none, some (.int x2), none, none, none, none, none] [] D (ay_ap x) := by
  intro n
  induction n with
  | zero => intro x2 D x h; cases h
  | succ n ih =>
    intro x2 D x h
    rw [fn_105_670] at h
    refine ay_q_loc (pc := 670) fe_105_670 rfl ?_
    refine ay_q_stk (pc := 671) (S' := [.int 9, .ref 0]) fe_105_671 rfl ?_
    cases hk27 : fn_14 9 D with
    | none => rw [hk27] at h; cases h
    | some z =>
      obtain ⟨y25, k77, D26⟩ := z
      rw [hk27] at h
      dsimp only at h
      by_cases hz78 : k77 = 0
      case neg => rw [if_neg hz78] at h; cases h
      rw [if_pos hz78] at h
      subst hz78
      refine ay_q_call (pc := 673) (w := some (.int y25)) fe_105_673 (ay_args [.ref 0, .int 9] [] rfl rfl (Nat.le_of_ble_eq_true rfl) (Nat.le_of_ble_eq_true rfl)) (ay_rcvV at_0 rfl) (ev_14 hk27) ?_
      refine ay_q_loc (pc := 676) (L' := [some (.ref 0), none, some (.int x2), none, none, some (.int y25), none, none]) fe_105_676 rfl ?_
      refine ay_q_loc (pc := 678) fe_105_678 rfl ?_
      refine ay_q_stk (pc := 679) (S' := [.int 0, .ref 0]) fe_105_679 rfl ?_
      cases hk30 : fn_14 0 D26 with
      | none => rw [hk30] at h; cases h
      | some z =>
        obtain ⟨y28, k75, D29⟩ := z
        rw [hk30] at h
        dsimp only at h
        by_cases hz76 : k75 = 0
        case neg => rw [if_neg hz76] at h; cases h
        rw [if_pos hz76] at h
        subst hz76
        refine ay_q_call (pc := 680) (w := some (.int y28)) fe_105_680 (ay_args [.ref 0, .int 0] [] rfl rfl (Nat.le_of_ble_eq_true rfl) (Nat.le_of_ble_eq_true rfl)) (ay_rcvV at_0 rfl) (ev_14 hk30) ?_
        refine ay_q_loc (pc := 683) (L' := [some (.ref 0), none, some (.int x2), none, none, some (.int y25), some (.int y28), none]) fe_105_683 rfl ?_
        refine ay_q_stk (pc := 685) (S' := [.int 1]) fe_105_685 rfl ?_
        refine ay_q_loc (pc := 686) fe_105_686 rfl ?_
        refine ay_q_loc (pc := 687) fe_105_687 rfl ?_
        refine ay_q_stk (pc := 688) (S' := [.int 8, .int x2, .int x2, .int 1]) fe_105_688 rfl ?_
        refine ay_q_stk (pc := 690) (S' := [.int (x2 >>> (8 &&& 31)), .int x2, .int 1]) fe_105_690 rfl ?_
        refine ay_q_stk (pc := 691) (S' := [.int 3, .int (x2 >>> (8 &&& 31)), .int x2, .int 1]) fe_105_691 rfl ?_
        cases hk33 : fn_70 (x2 >>> (8 &&& 31)) 3 D29 with
        | none => rw [hk33] at h; cases h
        | some z =>
          obtain ⟨y31, D32⟩ := z
          rw [hk33] at h
          dsimp only at h
          refine ay_q_call (pc := 692) (w := some (.int y31)) fe_105_692 (ay_args [.int (x2 >>> (8 &&& 31)), .int 3] [.int x2, .int 1] rfl rfl (Nat.le_of_ble_eq_true rfl) (Nat.le_of_ble_eq_true rfl)) rfl (ev_70 hk33) ?_
          by_cases hc34 : ¬ y31 = 0
          · rw [if_pos hc34] at h
            refine ay_q_pos (pc := 695) hc34 fe_105_695 rfl ?_
            refine ay_q_stk (pc := 703) (S' := [.int 5, .int x2, .int 1]) fe_105_703 rfl ?_
            cases hk37 : fn_70 x2 5 D32 with
            | none => rw [hk37] at h; cases h
            | some z =>
              obtain ⟨y35, D36⟩ := z
              rw [hk37] at h
              dsimp only at h
              refine ay_q_call (pc := 704) (w := some (.int y35)) fe_105_704 (ay_args [.int x2, .int 5] [.int 1] rfl rfl (Nat.le_of_ble_eq_true rfl) (Nat.le_of_ble_eq_true rfl)) rfl (ev_70 hk37) ?_
              refine ay_q_stk (pc := 707) (S' := [.int (1 + y35)]) fe_105_707 rfl ?_
              refine ay_q_loc (pc := 708) (L' := [some (.ref 0), none, some (.int x2), none, none, some (.int y25), some (.int y28), some (.int (1 + y35))]) fe_105_708 rfl ?_
              refine ay_q_loc (pc := 710) fe_105_710 rfl ?_
              refine ay_q_loc (pc := 711) fe_105_711 rfl ?_
              cases hk40 : fn_103 (1 + y35) D36 with
              | none => rw [hk40] at h; cases h
              | some z =>
                obtain ⟨y38, k53, D39⟩ := z
                rw [hk40] at h
                dsimp only at h
                by_cases hz54 : k53 = 0
                case neg => rw [if_neg hz54] at h; cases h
                rw [if_pos hz54] at h
                subst hz54
                refine ay_q_call (pc := 713) (w := some (.int y38)) fe_105_713 (ay_args [.ref 0, .int (1 + y35)] [] rfl rfl (Nat.le_of_ble_eq_true rfl) (Nat.le_of_ble_eq_true rfl)) (ay_rcvV at_0 rfl) (ev_103 hk40) ?_
                refine ay_q_loc (pc := 716) fe_105_716 rfl ?_
                refine ay_q_stk (pc := 717) (S' := [.int 9, .ref 0, .int y38]) fe_105_717 rfl ?_
                cases hk43 : fn_14 9 D39 with
                | none => rw [hk43] at h; cases h
                | some z =>
                  obtain ⟨y41, k51, D42⟩ := z
                  rw [hk43] at h
                  dsimp only at h
                  by_cases hz52 : k51 = 0
                  case neg => rw [if_neg hz52] at h; cases h
                  rw [if_pos hz52] at h
                  subst hz52
                  refine ay_q_call (pc := 719) (w := some (.int y41)) fe_105_719 (ay_args [.ref 0, .int 9] [.int y38] rfl rfl (Nat.le_of_ble_eq_true rfl) (Nat.le_of_ble_eq_true rfl)) (ay_rcvV at_0 rfl) (ev_14 hk43) ?_
                  refine ay_q_loc (pc := 722) fe_105_722 rfl ?_
                  refine ay_q_stk (pc := 724) (S' := [.int (y41 - y25), .int y38]) fe_105_724 rfl ?_
                  by_cases hc44 : ¬ y38 = (y41 - y25)
                  · rw [if_pos hc44] at h
                    refine ay_q_pos (pc := 725) hc44 fe_105_725 rfl ?_
                    refine ay_q_stk (pc := 745) (S' := [.int 0]) fe_105_745 rfl ?_
                    cases h
                    exact ay_q_iret fe_105_746 rfl rfl
                  · rw [if_neg hc44] at h
                    refine ay_q_neg (pc := 725) hc44 fe_105_725 rfl ?_
                    refine ay_q_loc (pc := 728) fe_105_728 rfl ?_
                    refine ay_q_stk (pc := 729) (S' := [.int 0, .ref 0]) fe_105_729 rfl ?_
                    cases hk47 : fn_14 0 D42 with
                    | none => rw [hk47] at h; cases h
                    | some z =>
                      obtain ⟨y45, k49, D46⟩ := z
                      rw [hk47] at h
                      dsimp only at h
                      by_cases hz50 : k49 = 0
                      case neg => rw [if_neg hz50] at h; cases h
                      rw [if_pos hz50] at h
                      subst hz50
                      refine ay_q_call (pc := 730) (w := some (.int y45)) fe_105_730 (ay_args [.ref 0, .int 0] [] rfl rfl (Nat.le_of_ble_eq_true rfl) (Nat.le_of_ble_eq_true rfl)) (ay_rcvV at_0 rfl) (ev_14 hk47) ?_
                      refine ay_q_loc (pc := 733) fe_105_733 rfl ?_
                      refine ay_q_loc (pc := 735) fe_105_735 rfl ?_
                      refine ay_q_stk (pc := 737) (S' := [.int (y28 + (1 + y35)), .int y45]) fe_105_737 rfl ?_
                      by_cases hc48 : ¬ y45 = (y28 + (1 + y35))
                      · rw [if_pos hc48] at h
                        refine ay_q_pos (pc := 738) hc48 fe_105_738 rfl ?_
                        refine ay_q_stk (pc := 745) (S' := [.int 0]) fe_105_745 rfl ?_
                        cases h
                        exact ay_q_iret fe_105_746 rfl rfl
                      · rw [if_neg hc48] at h
                        refine ay_q_neg (pc := 738) hc48 fe_105_738 rfl ?_
                        refine ay_q_stk (pc := 741) (S' := [.int 1]) fe_105_741 rfl ?_
                        refine ay_q_br (pc := 742) (pc' := 746) fe_105_742 rfl ?_
                        cases h
                        exact ay_q_iret fe_105_746 rfl rfl
          · rw [if_neg hc34] at h
            refine ay_q_neg (pc := 695) hc34 fe_105_695 rfl ?_
            refine ay_q_stk (pc := 698) (S' := [.int 50, .int x2, .int 1]) fe_105_698 rfl ?_
            refine ay_q_br (pc := 700) (pc' := 704) fe_105_700 rfl ?_
            cases hk57 : fn_70 x2 50 D32 with
            | none => rw [hk57] at h; cases h
            | some z =>
              obtain ⟨y55, D56⟩ := z
              rw [hk57] at h
              dsimp only at h
              refine ay_q_call (pc := 704) (w := some (.int y55)) fe_105_704 (ay_args [.int x2, .int 50] [.int 1] rfl rfl (Nat.le_of_ble_eq_true rfl) (Nat.le_of_ble_eq_true rfl)) rfl (ev_70 hk57) ?_
              refine ay_q_stk (pc := 707) (S' := [.int (1 + y55)]) fe_105_707 rfl ?_
              refine ay_q_loc (pc := 708) (L' := [some (.ref 0), none, some (.int x2), none, none, some (.int y25), some (.int y28), some (.int (1 + y55))]) fe_105_708 rfl ?_
              refine ay_q_loc (pc := 710) fe_105_710 rfl ?_
              refine ay_q_loc (pc := 711) fe_105_711 rfl ?_
              cases hk60 : fn_103 (1 + y55) D56 with
              | none => rw [hk60] at h; cases h
              | some z =>
                obtain ⟨y58, k73, D59⟩ := z
                rw [hk60] at h
                dsimp only at h
                by_cases hz74 : k73 = 0
                case neg => rw [if_neg hz74] at h; cases h
                rw [if_pos hz74] at h
                subst hz74
                refine ay_q_call (pc := 713) (w := some (.int y58)) fe_105_713 (ay_args [.ref 0, .int (1 + y55)] [] rfl rfl (Nat.le_of_ble_eq_true rfl) (Nat.le_of_ble_eq_true rfl)) (ay_rcvV at_0 rfl) (ev_103 hk60) ?_
                refine ay_q_loc (pc := 716) fe_105_716 rfl ?_
                refine ay_q_stk (pc := 717) (S' := [.int 9, .ref 0, .int y58]) fe_105_717 rfl ?_
                cases hk63 : fn_14 9 D59 with
                | none => rw [hk63] at h; cases h
                | some z =>
                  obtain ⟨y61, k71, D62⟩ := z
                  rw [hk63] at h
                  dsimp only at h
                  by_cases hz72 : k71 = 0
                  case neg => rw [if_neg hz72] at h; cases h
                  rw [if_pos hz72] at h
                  subst hz72
                  refine ay_q_call (pc := 719) (w := some (.int y61)) fe_105_719 (ay_args [.ref 0, .int 9] [.int y58] rfl rfl (Nat.le_of_ble_eq_true rfl) (Nat.le_of_ble_eq_true rfl)) (ay_rcvV at_0 rfl) (ev_14 hk63) ?_
                  refine ay_q_loc (pc := 722) fe_105_722 rfl ?_
                  refine ay_q_stk (pc := 724) (S' := [.int (y61 - y25), .int y58]) fe_105_724 rfl ?_
                  by_cases hc64 : ¬ y58 = (y61 - y25)
                  · rw [if_pos hc64] at h
                    refine ay_q_pos (pc := 725) hc64 fe_105_725 rfl ?_
                    refine ay_q_stk (pc := 745) (S' := [.int 0]) fe_105_745 rfl ?_
                    cases h
                    exact ay_q_iret fe_105_746 rfl rfl
                  · rw [if_neg hc64] at h
                    refine ay_q_neg (pc := 725) hc64 fe_105_725 rfl ?_
                    refine ay_q_loc (pc := 728) fe_105_728 rfl ?_
                    refine ay_q_stk (pc := 729) (S' := [.int 0, .ref 0]) fe_105_729 rfl ?_
                    cases hk67 : fn_14 0 D62 with
                    | none => rw [hk67] at h; cases h
                    | some z =>
                      obtain ⟨y65, k69, D66⟩ := z
                      rw [hk67] at h
                      dsimp only at h
                      by_cases hz70 : k69 = 0
                      case neg => rw [if_neg hz70] at h; cases h
                      rw [if_pos hz70] at h
                      subst hz70
                      refine ay_q_call (pc := 730) (w := some (.int y65)) fe_105_730 (ay_args [.ref 0, .int 0] [] rfl rfl (Nat.le_of_ble_eq_true rfl) (Nat.le_of_ble_eq_true rfl)) (ay_rcvV at_0 rfl) (ev_14 hk67) ?_
                      refine ay_q_loc (pc := 733) fe_105_733 rfl ?_
                      refine ay_q_loc (pc := 735) fe_105_735 rfl ?_
                      refine ay_q_stk (pc := 737) (S' := [.int (y28 + (1 + y55)), .int y65]) fe_105_737 rfl ?_
                      by_cases hc68 : ¬ y65 = (y28 + (1 + y55))
                      · rw [if_pos hc68] at h
                        refine ay_q_pos (pc := 738) hc68 fe_105_738 rfl ?_
                        refine ay_q_stk (pc := 745) (S' := [.int 0]) fe_105_745 rfl ?_
                        cases h
                        exact ay_q_iret fe_105_746 rfl rfl
                      · rw [if_neg hc68] at h
                        refine ay_q_neg (pc := 738) hc68 fe_105_738 rfl ?_
                        refine ay_q_stk (pc := 741) (S' := [.int 1]) fe_105_741 rfl ?_
                        refine ay_q_br (pc := 742) (pc' := 746) fe_105_742 rfl ?_
                        cases h
                        exact ay_q_iret fe_105_746 rfl rfl
def fn_105_21 : Nat → Int32 → Int32 → Int32 → Int32 → am_DD → Option ((Int32 × am_DD) ⊕ (Int32 × Int32 × am_DD))
  | 0, _, _, _, _, _ => none
  | n + 1, x1, x2, x3, x4, D => (match fn_70 x1 14 D with | none => none | some (y10, D11) => (if y10 = 0 then fn_105_88 am_F x2 x3 D11 else (if y10 = 1 then fn_105_88 am_F x2 x3 D11 else (if y10 = 2 then fn_105_171 am_F x2 x3 x4 D11 else (if y10 = 3 then fn_105_171 am_F x2 x3 x4 D11 else (if y10 = 4 then fn_105_171 am_F x2 x3 x4 D11 else (if y10 = 5 then fn_105_302 am_F x3 x4 D11 else (if y10 = 6 then fn_105_356 am_F x2 D11 else (if y10 = 7 then fn_105_447 am_F x2 D11 else (if y10 = 8 then fn_105_512 am_F x2 D11 else (if y10 = 9 then fn_105_512 am_F x2 D11 else (if y10 = 10 then fn_105_608 am_F x2 D11 else (if y10 = 11 then fn_105_636 am_F x2 D11 else fn_105_670 am_F x2 D11)))))))))))))
set_option maxHeartbeats 4000000 in
theorem ev_105_21 : ∀ (n : Nat) (x1 x2 x3 x4 : Int32) (D : am_DD) (x : (Int32 × am_DD) ⊕ (Int32 × Int32 × am_DD)), fn_105_21 n x1 x2 x3 x4 D = some x → ay_tz 1 6 105 21 [some (.ref 0), some (.int x1), some (.int x2), some (.int x3), some (.int x4), none, none, none] [] D (ay_ap x) := by
  intro n
  induction n with
  | zero => intro x1 x2 x3 x4 D x h; cases h
  | succ n ih =>
    intro x1 x2 x3 x4 D x h
    rw [fn_105_21] at h
    refine ay_q_loc (pc := 21) fe_105_21 rfl ?_
    refine ay_q_stk (pc := 22) (S' := [.int 14, .int x1]) fe_105_22 rfl ?_
    cases hk12 : fn_70 x1 14 D with
    | none => rw [hk12] at h; cases h
    | some z =>
      obtain ⟨y10, D11⟩ := z
      rw [hk12] at h
      dsimp only at h
      refine ay_q_call (pc := 24) (w := some (.int y10)) fe_105_24 (ay_args [.int x1, .int 14] [] rfl rfl (Nat.le_of_ble_eq_true rfl) (Nat.le_of_ble_eq_true rfl)) rfl (ev_70 hk12) ?_
      by_cases hc13 : y10 = 0
      · rw [if_pos hc13] at h
        refine ay_q_br (pc := 27) (pc' := 88) (S' := []) fe_105_27 (by rw [hc13]; rfl) ?_
        exact ay_q_less (ay_ls (ay_ln (ay_ls (ay_ls (ay_ln (ay_ls (ay_ls (ay_ls ay_l0)))))))) (ev_105_88 _ _ _ _ _ h)
      · rw [if_neg hc13] at h
        by_cases hc14 : y10 = 1
        · rw [if_pos hc14] at h
          refine ay_q_br (pc := 27) (pc' := 88) (S' := []) fe_105_27 (by rw [hc14]; rfl) ?_
          exact ay_q_less (ay_ls (ay_ln (ay_ls (ay_ls (ay_ln (ay_ls (ay_ls (ay_ls ay_l0)))))))) (ev_105_88 _ _ _ _ _ h)
        · rw [if_neg hc14] at h
          by_cases hc15 : y10 = 2
          · rw [if_pos hc15] at h
            refine ay_q_br (pc := 27) (pc' := 171) (S' := []) fe_105_27 (by rw [hc15]; rfl) ?_
            exact ay_q_less (ay_ls (ay_ln (ay_ls (ay_ls (ay_ls (ay_ls (ay_ls (ay_ls ay_l0)))))))) (ev_105_171 _ _ _ _ _ _ h)
          · rw [if_neg hc15] at h
            by_cases hc16 : y10 = 3
            · rw [if_pos hc16] at h
              refine ay_q_br (pc := 27) (pc' := 171) (S' := []) fe_105_27 (by rw [hc16]; rfl) ?_
              exact ay_q_less (ay_ls (ay_ln (ay_ls (ay_ls (ay_ls (ay_ls (ay_ls (ay_ls ay_l0)))))))) (ev_105_171 _ _ _ _ _ _ h)
            · rw [if_neg hc16] at h
              by_cases hc17 : y10 = 4
              · rw [if_pos hc17] at h
                refine ay_q_br (pc := 27) (pc' := 171) (S' := []) fe_105_27 (by rw [hc17]; rfl) ?_
                exact ay_q_less (ay_ls (ay_ln (ay_ls (ay_ls (ay_ls (ay_ls (ay_ls (ay_ls ay_l0)))))))) (ev_105_171 _ _ _ _ _ _ h)
              · rw [if_neg hc17] at h
                by_cases hc18 : y10 = 5
                · rw [if_pos hc18] at h
                  refine ay_q_br (pc := 27) (pc' := 302) (S' := []) fe_105_27 (by rw [hc18]; rfl) ?_
                  exact ay_q_less (ay_ls (ay_ln (ay_ln (ay_ls (ay_ls (ay_ls (ay_ls (ay_ls ay_l0)))))))) (ev_105_302 _ _ _ _ _ h)
                · rw [if_neg hc18] at h
                  by_cases hc19 : y10 = 6
                  · rw [if_pos hc19] at h
                    refine ay_q_br (pc := 27) (pc' := 356) (S' := []) fe_105_27 (by rw [hc19]; rfl) ?_
                    exact ay_q_less (ay_ls (ay_ln (ay_ls (ay_ln (ay_ln (ay_ls (ay_ls (ay_ls ay_l0)))))))) (ev_105_356 _ _ _ _ h)
                  · rw [if_neg hc19] at h
                    by_cases hc20 : y10 = 7
                    · rw [if_pos hc20] at h
                      refine ay_q_br (pc := 27) (pc' := 447) (S' := []) fe_105_27 (by rw [hc20]; rfl) ?_
                      exact ay_q_less (ay_ls (ay_ln (ay_ls (ay_ln (ay_ln (ay_ls (ay_ls (ay_ls ay_l0)))))))) (ev_105_447 _ _ _ _ h)
                    · rw [if_neg hc20] at h
                      by_cases hc21 : y10 = 8
                      · rw [if_pos hc21] at h
                        refine ay_q_br (pc := 27) (pc' := 512) (S' := []) fe_105_27 (by rw [hc21]; rfl) ?_
                        exact ay_q_less (ay_ls (ay_ln (ay_ls (ay_ln (ay_ln (ay_ls (ay_ls (ay_ls ay_l0)))))))) (ev_105_512 _ _ _ _ h)
                      · rw [if_neg hc21] at h
                        by_cases hc22 : y10 = 9
                        · rw [if_pos hc22] at h
                          refine ay_q_br (pc := 27) (pc' := 512) (S' := []) fe_105_27 (by rw [hc22]; rfl) ?_
                          exact ay_q_less (ay_ls (ay_ln (ay_ls (ay_ln (ay_ln (ay_ls (ay_ls (ay_ls ay_l0)))))))) (ev_105_512 _ _ _ _ h)
                        · rw [if_neg hc22] at h
                          by_cases hc23 : y10 = 10
                          · rw [if_pos hc23] at h
                            refine ay_q_br (pc := 27) (pc' := 608) (S' := []) fe_105_27 (by rw [hc23]; rfl) ?_
                            exact ay_q_less (ay_ls (ay_ln (ay_ls (ay_ln (ay_ln (ay_ls (ay_ls (ay_ls ay_l0)))))))) (ev_105_608 _ _ _ _ h)
                          · rw [if_neg hc23] at h
                            by_cases hc24 : y10 = 11
                            · rw [if_pos hc24] at h
                              refine ay_q_br (pc := 27) (pc' := 636) (S' := []) fe_105_27 (by rw [hc24]; rfl) ?_
                              exact ay_q_less (ay_ls (ay_ln (ay_ls (ay_ln (ay_ln (ay_ls (ay_ls (ay_ls ay_l0)))))))) (ev_105_636 _ _ _ _ h)
                            · rw [if_neg hc24] at h
                              refine ay_q_br (pc := 27) (pc' := 670) fe_105_27 (ay_tab_def (by have z0 := ay_ne_toInt (c := 0) hc13 (by decide); have z1 := ay_ne_toInt (c := 1) hc14 (by decide); have z2 := ay_ne_toInt (c := 2) hc15 (by decide); have z3 := ay_ne_toInt (c := 3) hc16 (by decide); have z4 := ay_ne_toInt (c := 4) hc17 (by decide); have z5 := ay_ne_toInt (c := 5) hc18 (by decide); have z6 := ay_ne_toInt (c := 6) hc19 (by decide); have z7 := ay_ne_toInt (c := 7) hc20 (by decide); have z8 := ay_ne_toInt (c := 8) hc21 (by decide); have z9 := ay_ne_toInt (c := 9) hc22 (by decide); have z10 := ay_ne_toInt (c := 10) hc23 (by decide); have z11 := ay_ne_toInt (c := 11) hc24 (by decide); omega) rfl) ?_
                              exact ay_q_less (ay_ls (ay_ln (ay_ls (ay_ln (ay_ln (ay_ls (ay_ls (ay_ls ay_l0)))))))) (ev_105_670 _ _ _ _ h)
def fn_105 (a2 a3 : Int32) (D : am_DD) : Option ((Int32 × am_DD) ⊕ (Int32 × Int32 × am_DD)) := (match fn_14 1 D with | none => none | some (y1, k8, D2) => (if k8 = 0 then (if ¬ y1 = 0 then (match fn_70 a3 y1 D2 with | none => none | some (y5, D6) => fn_105_21 am_F a2 a3 y1 y5 D6) else fn_105_21 am_F a2 a3 y1 0 D2) else none))
set_option maxHeartbeats 4000000 in
theorem ev_105 {a2 a3 : Int32} {D : am_DD} {x : (Int32 × am_DD) ⊕ (Int32 × Int32 × am_DD)} (h : fn_105 a2 a3 D = some x) : ay_tz 1 6 105 0 [some (.ref 0), some (.int a2), some (.int a3), none, none, none, none, none] [] D (ay_ap x) := by
  unfold fn_105 at h
  refine ay_q_loc (pc := 0) fe_105_0 rfl ?_
  refine ay_q_stk (pc := 1) (S' := [.int 1, .ref 0]) fe_105_1 rfl ?_
  cases hk3 : fn_14 1 D with
  | none => rw [hk3] at h; cases h
  | some z =>
    obtain ⟨y1, k8, D2⟩ := z
    rw [hk3] at h
    dsimp only at h
    by_cases hz9 : k8 = 0
    case neg => rw [if_neg hz9] at h; cases h
    rw [if_pos hz9] at h
    subst hz9
    refine ay_q_call (pc := 2) (w := some (.int y1)) fe_105_2 (ay_args [.ref 0, .int 1] [] rfl rfl (Nat.le_of_ble_eq_true rfl) (Nat.le_of_ble_eq_true rfl)) (ay_rcvV at_0 rfl) (ev_14 hk3) ?_
    refine ay_q_loc (pc := 5) (L' := [some (.ref 0), some (.int a2), some (.int a3), some (.int y1), none, none, none, none]) fe_105_5 rfl ?_
    refine ay_q_loc (pc := 6) fe_105_6 rfl ?_
    by_cases hc4 : ¬ y1 = 0
    · rw [if_pos hc4] at h
      refine ay_q_pos (pc := 7) hc4 fe_105_7 rfl ?_
      refine ay_q_loc (pc := 14) fe_105_14 rfl ?_
      refine ay_q_loc (pc := 15) fe_105_15 rfl ?_
      cases hk7 : fn_70 a3 y1 D2 with
      | none => rw [hk7] at h; cases h
      | some z =>
        obtain ⟨y5, D6⟩ := z
        rw [hk7] at h
        dsimp only at h
        refine ay_q_call (pc := 16) (w := some (.int y5)) fe_105_16 (ay_args [.int a3, .int y1] [] rfl rfl (Nat.le_of_ble_eq_true rfl) (Nat.le_of_ble_eq_true rfl)) rfl (ev_70 hk7) ?_
        refine ay_q_loc (pc := 19) (L' := [some (.ref 0), some (.int a2), some (.int a3), some (.int y1), some (.int y5), none, none, none]) fe_105_19 rfl ?_
        exact ay_q_less (ay_ls (ay_ls (ay_ls (ay_ls (ay_ls (ay_ls (ay_ls (ay_ls ay_l0)))))))) (ev_105_21 _ _ _ _ _ _ _ h)
    · rw [if_neg hc4] at h
      refine ay_q_neg (pc := 7) hc4 fe_105_7 rfl ?_
      refine ay_q_stk (pc := 10) (S' := [.int 0]) fe_105_10 rfl ?_
      refine ay_q_br (pc := 11) (pc' := 19) fe_105_11 rfl ?_
      refine ay_q_loc (pc := 19) (L' := [some (.ref 0), some (.int a2), some (.int a3), some (.int y1), some (.int 0), none, none, none]) fe_105_19 rfl ?_
      exact ay_q_less (ay_ls (ay_ls (ay_ls (ay_ls (ay_ls (ay_ls (ay_ls (ay_ls ay_l0)))))))) (ev_105_21 _ _ _ _ _ _ _ h)
