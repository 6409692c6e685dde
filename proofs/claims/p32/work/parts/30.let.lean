/-! letsOut's frame: a run with an own row of 17 ints -/
def ay_tw (i pc : Nat) (L : am_LL) (S : List Value) (D : am_DD) (o : Option Value ⊕ Nat) (D' : am_DD) : Prop := ∃ r, ay_ev (some 17) i pc L S D r D' 0 0 ∧ am_end i r = some o
section AYWW
variable {i pc len g a b pc' : Nat} {ins : Instr} {L L' : am_LL} {S S' S1 As : List Value} {D D' D1 D2 : am_DD} {o : Option Value ⊕ Nat}
theorem ay_w_ret (hf : am_fetch i pc = some (ins, len, g, a, b)) (h8 : 8 ≤ g) (he : am_end i (pc, L, S) = some o) : ay_tw i pc L S D o D := ⟨_, ay_e_end hf h8, he⟩
theorem ay_w_stk (hf : am_fetch i pc = some (ins, len, 0, a, b)) (h : am_stk ins S = some S') (kk : ay_tw i (pc + len) L S' D o D2) : ay_tw i pc L S D o D2 := let ⟨r, h1, h2⟩ := kk; ⟨r, ay_e_stk hf h h1, h2⟩
theorem ay_w_loc (hf : am_fetch i pc = some (ins, len, 1, a, b)) (h : am_loc ins L S = some (L', S')) (kk : ay_tw i (pc + len) L' S' D o D2) : ay_tw i pc L S D o D2 := let ⟨r, h1, h2⟩ := kk; ⟨r, ay_e_loc hf h h1, h2⟩
theorem ay_w_br (hf : am_fetch i pc = some (ins, len, 2, a, b)) (h : am_br ins a pc S = some (pc', S')) (kk : ay_tw i pc' L S' D o D2) : ay_tw i pc L S D o D2 := let ⟨r, h1, h2⟩ := kk; ⟨r, ay_e_br hf h h1, h2⟩
theorem ay_w_call {w : Option Value} (hf : am_fetch i pc = some (ins, len, 7, a, b)) (hA : am_args a S = some (As, S1)) (hr : am_rcv ins a As ay_SK = true) (hm : ay_mo a As D (.inl w) D1) (kk : ay_tw i (pc + 3) L (w.toList ++ S1) D1 o D2) : ay_tw i pc L S D o D2 := let ⟨r, h1, h2⟩ := kk; ⟨r, ay_e_call hf hA hr hm h1, h2⟩
theorem ay_w_pos {P : Prop} [Decidable P] (hP : P) (hf : am_fetch i pc = some (ins, len, 2, a, b)) (h : am_br ins a pc S = am_go (decide P) a pc S') (k1 : ay_tw i a L S' D o D2) : ay_tw i pc L S D o D2 := ay_w_br hf (by rw [h, decide_eq_true hP]; rfl) k1
theorem ay_w_neg {P : Prop} [Decidable P] (hP : ¬ P) (hf : am_fetch i pc = some (ins, len, 2, a, b)) (h : am_br ins a pc S = am_go (decide P) a pc S') (k1 : ay_tw i (pc + 3) L S' D o D2) : ay_tw i pc L S D o D2 := ay_w_br hf (by rw [h, decide_eq_false hP]; rfl) k1
theorem ay_w_ialoadS {x : Int32} (hf : am_fetch i pc = some (.iaload, len, 3, a, b)) (hb : ¬ (x < 0 ∨ 17 ≤ x.toNatClampNeg)) (kk : ay_tw i (pc + len) L (.int (D am_scr x.toNatClampNeg) :: S) D o D2) : ay_tw i pc L (.int x :: .ref am_scr :: S) D o D2 := let ⟨r, h1, h2⟩ := kk; ⟨r, ay_e_rd hf (by simp only [am_rd, if_pos, if_neg hb]) h1, h2⟩
theorem ay_w_iastoreS {x y : Int32} (hf : am_fetch i pc = some (.iastore, len, 4, a, b)) (hb : ¬ (x < 0 ∨ 17 ≤ x.toNatClampNeg)) (kk : ay_tw i (pc + len) L S (am_upd D am_scr x.toNatClampNeg y) o D2) : ay_tw i pc L (.int y :: .int x :: .ref am_scr :: S) D o D2 := let ⟨r, h1, h2⟩ := kk; ⟨r, ay_e_wr hf (by simp only [am_wr, if_pos, if_neg hb]) h1, h2⟩
theorem ay_w_iret {x : Int32} {ty : FieldType} (hf : am_fetch i pc = some (.ireturn, len, 8, a, b)) (hr : am_ret i = some ty) (hn : narrow ty (.int x) = .int x) : ay_tw i pc L [.int x] D (.inl (some (.int x))) D := ay_w_ret hf (by decide) (by simp [am_end, hf, hr, hn])
theorem ay_w_zret {x : Int32} (hf : am_fetch i pc = some (.ireturn, len, 8, a, b)) (hr : am_ret i = some .boolean) (hn : ay_isb x = true) : ay_tw i pc L [.int x] D (.inl (some (.int x))) D := ay_w_iret hf hr (by
  have h : x &&& 1 = x := of_decide_eq_true hn
  show Value.int (x &&& 1) = .int x
  rw [h])
theorem ay_w_less (h : ay_le L L') (kk : ay_tw i pc L S D o D2) : ay_tw i pc L' S D o D2 := by
  obtain ⟨r, ⟨n, hn⟩, he⟩ := kk
  obtain ⟨L2, h1, -⟩ := ay_le_run n _ _ _ _ _ _ _ _ _ _ _ _ _ _ h hn
  exact ⟨_, ⟨n, h1⟩, he⟩
end AYWW
def fn_104_276 : Nat → Int32 → Int32 → Int32 → Int32 → am_DD → Option (Int32 × am_DD)
  | 0, _, _, _, _, _ => none
  | n + 1, x1, x4, x5, x6, D => (if 17 ≤ x6 then (if ¬ x5 = x1 then some (0, D) else some (1, D)) else (match fn_14 3 D with | none => none | some (y151, k184, D152) => (if k184 = 0 then (if ¬ y151 = 0 then (if ¬ x5 = x1 then some (0, D152) else some (1, D152)) else (match fn_14 4 D152 with | none => none | some (y156, k182, D157) => (if k182 = 0 then (if ¬ y156 = 0 then (if ¬ x5 = x1 then some (0, D157) else some (1, D157)) else (if x6 < 0 ∨ 17 ≤ x6.toNatClampNeg then none else (if 12 ≤ x6 then (match fn_33 (x6 - 12) 1 D157 with | none => none | some (y163, k167, D164) => (if k167 = 0 then (if (D157 am_scr x6.toNatClampNeg) = y163 then fn_104_276 n x1 x4 x5 (x6 + 1) D164 else some (0, D164)) else none)) else (if x4 ≤ x6 then (if (D157 am_scr x6.toNatClampNeg) = 0 then fn_104_276 n x1 x4 x5 (x6 + 1) D157 else some (0, D157)) else (match fn_44 x6 4 D157 with | none => none | some (y171, k180, D172) => (if k180 = 0 then (match fn_44 x6 5 D172 with | none => none | some (y174, k178, D175) => (if k178 = 0 then (if (D157 am_scr x6.toNatClampNeg) = (y171 + y174) then fn_104_276 n x1 x4 x5 (x6 + 1) D175 else some (0, D175)) else none)) else none)))))) else none))) else none)))
set_option maxHeartbeats 4000000 in
theorem ev_104_276 : ∀ (n : Nat) (x1 x4 x5 x6 : Int32) (D : am_DD) (y : Int32) (Z : am_DD), fn_104_276 n x1 x4 x5 x6 D = some (y, Z) → ay_tw 104 276 [some (.ref 0), some (.int x1), none, some (.ref am_scr), some (.int x4), some (.int x5), some (.int x6)] [] D (.inl (some (.int y))) Z := by
  intro n
  induction n with
  | zero => intro x1 x4 x5 x6 D y Z h; cases h
  | succ n ih =>
    intro x1 x4 x5 x6 D y Z h
    rw [fn_104_276] at h
    refine ay_w_loc (pc := 276) fe_104_276 rfl ?_
    refine ay_w_stk (pc := 278) (S' := [.int 17, .int x6]) fe_104_278 rfl ?_
    by_cases hc149 : 17 ≤ x6
    · rw [if_pos hc149] at h
      refine ay_w_pos (pc := 280) hc149 fe_104_280 rfl ?_
      refine ay_w_loc (pc := 360) fe_104_360 rfl ?_
      refine ay_w_loc (pc := 362) fe_104_362 rfl ?_
      by_cases hc150 : ¬ x5 = x1
      · rw [if_pos hc150] at h
        refine ay_w_pos (pc := 363) hc150 fe_104_363 rfl ?_
        refine ay_w_stk (pc := 370) (S' := [.int 0]) fe_104_370 rfl ?_
        cases h
        exact ay_w_iret fe_104_371 rfl rfl
      · rw [if_neg hc150] at h
        refine ay_w_neg (pc := 363) hc150 fe_104_363 rfl ?_
        refine ay_w_stk (pc := 366) (S' := [.int 1]) fe_104_366 rfl ?_
        refine ay_w_br (pc := 367) (pc' := 371) fe_104_367 rfl ?_
        cases h
        exact ay_w_iret fe_104_371 rfl rfl
    · rw [if_neg hc149] at h
      refine ay_w_neg (pc := 280) hc149 fe_104_280 rfl ?_
      refine ay_w_loc (pc := 283) fe_104_283 rfl ?_
      refine ay_w_stk (pc := 284) (S' := [.int 3, .ref 0]) fe_104_284 rfl ?_
      cases hk153 : fn_14 3 D with
      | none => rw [hk153] at h; cases h
      | some z =>
        obtain ⟨y151, k184, D152⟩ := z
        rw [hk153] at h
        dsimp only at h
        by_cases hz185 : k184 = 0
        case neg => rw [if_neg hz185] at h; cases h
        rw [if_pos hz185] at h
        subst hz185
        refine ay_w_call (pc := 285) (w := some (.int y151)) fe_104_285 (ay_args [.ref 0, .int 3] [] rfl rfl (Nat.le_of_ble_eq_true rfl) (Nat.le_of_ble_eq_true rfl)) (ay_rcvV at_0 rfl) (ev_14 hk153) ?_
        by_cases hc154 : ¬ y151 = 0
        · rw [if_pos hc154] at h
          refine ay_w_pos (pc := 288) hc154 fe_104_288 rfl ?_
          refine ay_w_loc (pc := 360) fe_104_360 rfl ?_
          refine ay_w_loc (pc := 362) fe_104_362 rfl ?_
          by_cases hc155 : ¬ x5 = x1
          · rw [if_pos hc155] at h
            refine ay_w_pos (pc := 363) hc155 fe_104_363 rfl ?_
            refine ay_w_stk (pc := 370) (S' := [.int 0]) fe_104_370 rfl ?_
            cases h
            exact ay_w_iret fe_104_371 rfl rfl
          · rw [if_neg hc155] at h
            refine ay_w_neg (pc := 363) hc155 fe_104_363 rfl ?_
            refine ay_w_stk (pc := 366) (S' := [.int 1]) fe_104_366 rfl ?_
            refine ay_w_br (pc := 367) (pc' := 371) fe_104_367 rfl ?_
            cases h
            exact ay_w_iret fe_104_371 rfl rfl
        · rw [if_neg hc154] at h
          refine ay_w_neg (pc := 288) hc154 fe_104_288 rfl ?_
          refine ay_w_loc (pc := 291) fe_104_291 rfl ?_
          refine ay_w_stk (pc := 292) (S' := [.int 4, .ref 0]) fe_104_292 rfl ?_
          cases hk158 : fn_14 4 D152 with
          | none => rw [hk158] at h; cases h
          | some z =>
            obtain ⟨y156, k182, D157⟩ := z
            rw [hk158] at h
            dsimp only at h
            by_cases hz183 : k182 = 0
            case neg => rw [if_neg hz183] at h; cases h
            rw [if_pos hz183] at h
            subst hz183
            refine ay_w_call (pc := 293) (w := some (.int y156)) fe_104_293 (ay_args [.ref 0, .int 4] [] rfl rfl (Nat.le_of_ble_eq_true rfl) (Nat.le_of_ble_eq_true rfl)) (ay_rcvV at_0 rfl) (ev_14 hk158) ?_
            by_cases hc159 : ¬ y156 = 0
            · rw [if_pos hc159] at h
              refine ay_w_pos (pc := 296) hc159 fe_104_296 rfl ?_
              refine ay_w_loc (pc := 360) fe_104_360 rfl ?_
              refine ay_w_loc (pc := 362) fe_104_362 rfl ?_
              by_cases hc160 : ¬ x5 = x1
              · rw [if_pos hc160] at h
                refine ay_w_pos (pc := 363) hc160 fe_104_363 rfl ?_
                refine ay_w_stk (pc := 370) (S' := [.int 0]) fe_104_370 rfl ?_
                cases h
                exact ay_w_iret fe_104_371 rfl rfl
              · rw [if_neg hc160] at h
                refine ay_w_neg (pc := 363) hc160 fe_104_363 rfl ?_
                refine ay_w_stk (pc := 366) (S' := [.int 1]) fe_104_366 rfl ?_
                refine ay_w_br (pc := 367) (pc' := 371) fe_104_367 rfl ?_
                cases h
                exact ay_w_iret fe_104_371 rfl rfl
            · rw [if_neg hc159] at h
              refine ay_w_neg (pc := 296) hc159 fe_104_296 rfl ?_
              refine ay_w_loc (pc := 299) fe_104_299 rfl ?_
              refine ay_w_loc (pc := 300) fe_104_300 rfl ?_
              by_cases hb161 : x6 < 0 ∨ 17 ≤ x6.toNatClampNeg
              · rw [if_pos hb161] at h; cases h
              rw [if_neg hb161] at h
              refine ay_w_ialoadS (pc := 302) fe_104_302 hb161 ?_
              refine ay_w_loc (pc := 303) fe_104_303 rfl ?_
              refine ay_w_stk (pc := 305) (S' := [.int 12, .int x6, .int (D157 am_scr x6.toNatClampNeg)]) fe_104_305 rfl ?_
              by_cases hc162 : 12 ≤ x6
              · rw [if_pos hc162] at h
                refine ay_w_pos (pc := 307) hc162 fe_104_307 rfl ?_
                refine ay_w_loc (pc := 339) fe_104_339 rfl ?_
                refine ay_w_loc (pc := 340) fe_104_340 rfl ?_
                refine ay_w_stk (pc := 342) (S' := [.int 12, .int x6, .ref 0, .int (D157 am_scr x6.toNatClampNeg)]) fe_104_342 rfl ?_
                refine ay_w_stk (pc := 344) (S' := [.int (x6 - 12), .ref 0, .int (D157 am_scr x6.toNatClampNeg)]) fe_104_344 rfl ?_
                refine ay_w_stk (pc := 345) (S' := [.int 1, .int (x6 - 12), .ref 0, .int (D157 am_scr x6.toNatClampNeg)]) fe_104_345 rfl ?_
                cases hk165 : fn_33 (x6 - 12) 1 D157 with
                | none => rw [hk165] at h; cases h
                | some z =>
                  obtain ⟨y163, k167, D164⟩ := z
                  rw [hk165] at h
                  dsimp only at h
                  by_cases hz168 : k167 = 0
                  case neg => rw [if_neg hz168] at h; cases h
                  rw [if_pos hz168] at h
                  subst hz168
                  refine ay_w_call (pc := 346) (w := some (.int y163)) fe_104_346 (ay_args [.ref 0, .int (x6 - 12), .int 1] [.int (D157 am_scr x6.toNatClampNeg)] rfl rfl (Nat.le_of_ble_eq_true rfl) (Nat.le_of_ble_eq_true rfl)) (ay_rcvV at_0 rfl) (ev_33 hk165) ?_
                  by_cases hc166 : (D157 am_scr x6.toNatClampNeg) = y163
                  · rw [if_pos hc166] at h
                    refine ay_w_pos (pc := 349) hc166 fe_104_349 rfl ?_
                    refine ay_w_loc (pc := 354) (L' := [some (.ref 0), some (.int x1), none, some (.ref am_scr), some (.int x4), some (.int x5), some (.int (x6 + 1))]) fe_104_354 rfl ?_
                    refine ay_w_br (pc := 357) (pc' := 276) fe_104_357 rfl ?_
                    exact ay_w_less (ay_ls (ay_ls (ay_ls (ay_ls (ay_ls (ay_ls (ay_ls ay_l0))))))) (ih _ _ _ _ _ _ _ h)
                  · rw [if_neg hc166] at h
                    refine ay_w_neg (pc := 349) hc166 fe_104_349 rfl ?_
                    refine ay_w_stk (pc := 352) (S' := [.int 0]) fe_104_352 rfl ?_
                    cases h
                    exact ay_w_iret fe_104_353 rfl rfl
              · rw [if_neg hc162] at h
                refine ay_w_neg (pc := 307) hc162 fe_104_307 rfl ?_
                refine ay_w_loc (pc := 310) fe_104_310 rfl ?_
                refine ay_w_loc (pc := 312) fe_104_312 rfl ?_
                by_cases hc169 : x4 ≤ x6
                · rw [if_pos hc169] at h
                  refine ay_w_pos (pc := 314) hc169 fe_104_314 rfl ?_
                  refine ay_w_stk (pc := 335) (S' := [.int 0, .int (D157 am_scr x6.toNatClampNeg)]) fe_104_335 rfl ?_
                  refine ay_w_br (pc := 336) (pc' := 349) fe_104_336 rfl ?_
                  by_cases hc170 : (D157 am_scr x6.toNatClampNeg) = 0
                  · rw [if_pos hc170] at h
                    refine ay_w_pos (pc := 349) hc170 fe_104_349 rfl ?_
                    refine ay_w_loc (pc := 354) (L' := [some (.ref 0), some (.int x1), none, some (.ref am_scr), some (.int x4), some (.int x5), some (.int (x6 + 1))]) fe_104_354 rfl ?_
                    refine ay_w_br (pc := 357) (pc' := 276) fe_104_357 rfl ?_
                    exact ay_w_less (ay_ls (ay_ls (ay_ls (ay_ls (ay_ls (ay_ls (ay_ls ay_l0))))))) (ih _ _ _ _ _ _ _ h)
                  · rw [if_neg hc170] at h
                    refine ay_w_neg (pc := 349) hc170 fe_104_349 rfl ?_
                    refine ay_w_stk (pc := 352) (S' := [.int 0]) fe_104_352 rfl ?_
                    cases h
                    exact ay_w_iret fe_104_353 rfl rfl
                · rw [if_neg hc169] at h
                  refine ay_w_neg (pc := 314) hc169 fe_104_314 rfl ?_
                  refine ay_w_loc (pc := 317) fe_104_317 rfl ?_
                  refine ay_w_loc (pc := 318) fe_104_318 rfl ?_
                  refine ay_w_stk (pc := 320) (S' := [.int 4, .int x6, .ref 0, .int (D157 am_scr x6.toNatClampNeg)]) fe_104_320 rfl ?_
                  cases hk173 : fn_44 x6 4 D157 with
                  | none => rw [hk173] at h; cases h
                  | some z =>
                    obtain ⟨y171, k180, D172⟩ := z
                    rw [hk173] at h
                    dsimp only at h
                    by_cases hz181 : k180 = 0
                    case neg => rw [if_neg hz181] at h; cases h
                    rw [if_pos hz181] at h
                    subst hz181
                    refine ay_w_call (pc := 321) (w := some (.int y171)) fe_104_321 (ay_args [.ref 0, .int x6, .int 4] [.int (D157 am_scr x6.toNatClampNeg)] rfl rfl (Nat.le_of_ble_eq_true rfl) (Nat.le_of_ble_eq_true rfl)) (ay_rcvV at_0 rfl) (ev_44 hk173) ?_
                    refine ay_w_loc (pc := 324) fe_104_324 rfl ?_
                    refine ay_w_loc (pc := 325) fe_104_325 rfl ?_
                    refine ay_w_stk (pc := 327) (S' := [.int 5, .int x6, .ref 0, .int y171, .int (D157 am_scr x6.toNatClampNeg)]) fe_104_327 rfl ?_
                    cases hk176 : fn_44 x6 5 D172 with
                    | none => rw [hk176] at h; cases h
                    | some z =>
                      obtain ⟨y174, k178, D175⟩ := z
                      rw [hk176] at h
                      dsimp only at h
                      by_cases hz179 : k178 = 0
                      case neg => rw [if_neg hz179] at h; cases h
                      rw [if_pos hz179] at h
                      subst hz179
                      refine ay_w_call (pc := 328) (w := some (.int y174)) fe_104_328 (ay_args [.ref 0, .int x6, .int 5] [.int y171, .int (D157 am_scr x6.toNatClampNeg)] rfl rfl (Nat.le_of_ble_eq_true rfl) (Nat.le_of_ble_eq_true rfl)) (ay_rcvV at_0 rfl) (ev_44 hk176) ?_
                      refine ay_w_stk (pc := 331) (S' := [.int (y171 + y174), .int (D157 am_scr x6.toNatClampNeg)]) fe_104_331 rfl ?_
                      refine ay_w_br (pc := 332) (pc' := 349) fe_104_332 rfl ?_
                      by_cases hc177 : (D157 am_scr x6.toNatClampNeg) = (y171 + y174)
                      · rw [if_pos hc177] at h
                        refine ay_w_pos (pc := 349) hc177 fe_104_349 rfl ?_
                        refine ay_w_loc (pc := 354) (L' := [some (.ref 0), some (.int x1), none, some (.ref am_scr), some (.int x4), some (.int x5), some (.int (x6 + 1))]) fe_104_354 rfl ?_
                        refine ay_w_br (pc := 357) (pc' := 276) fe_104_357 rfl ?_
                        exact ay_w_less (ay_ls (ay_ls (ay_ls (ay_ls (ay_ls (ay_ls (ay_ls ay_l0))))))) (ih _ _ _ _ _ _ _ h)
                      · rw [if_neg hc177] at h
                        refine ay_w_neg (pc := 349) hc177 fe_104_349 rfl ?_
                        refine ay_w_stk (pc := 352) (S' := [.int 0]) fe_104_352 rfl ?_
                        cases h
                        exact ay_w_iret fe_104_353 rfl rfl
def fn_104_201 : Nat → Int32 → Int32 → Int32 → Int32 → Int32 → am_DD → Option (Int32 × am_DD)
  | 0, _, _, _, _, _, _ => none
  | n + 1, x1, x2, x4, x5, x6, D => (if 40 ≤ x6 then fn_104_276 am_F x1 x4 x5 0 D else (match fn_14 3 D with | none => none | some (y95, k147, D96) => (if k147 = 0 then (if 0 < y95 then (match fn_70 (x2 >>> (x6 &&& 31)) 5 D96 with | none => none | some (y99, D100) => (match fn_90 y99 D100 with | none => none | some (y102, k118, D103) => (if k118 = 0 then (if y102 < 0 then some (0, D103) else (match fn_90 (x6 - x6 / 5 * 5) D103 with | none => none | some (y106, k116, D107) => (if k116 = 0 then (if y106 < 0 then some (0, D107) else (match fn_103 (20 + (x6 - x6 / 30 * 30)) D107 with | none => none | some (y110, k114, D111) => (if k114 = 0 then (if 0 ≤ y110 then fn_104_201 n x1 x2 x4 x5 (x6 + 1) D111 else some (0, D111)) else none))) else none))) else none))) else (match fn_14 4 D96 with | none => none | some (y120, k145, D121) => (if k145 = 0 then (if y120 ≤ 0 then fn_104_276 am_F x1 x4 x5 0 D121 else (match fn_70 (x2 >>> (x6 &&& 31)) 5 D121 with | none => none | some (y124, D125) => (match fn_90 y124 D125 with | none => none | some (y127, k143, D128) => (if k143 = 0 then (if y127 < 0 then some (0, D128) else (match fn_90 (x6 - x6 / 5 * 5) D128 with | none => none | some (y131, k141, D132) => (if k141 = 0 then (if y131 < 0 then some (0, D132) else (match fn_103 (20 + (x6 - x6 / 30 * 30)) D132 with | none => none | some (y135, k139, D136) => (if k139 = 0 then (if 0 ≤ y135 then fn_104_201 n x1 x2 x4 x5 (x6 + 1) D136 else some (0, D136)) else none))) else none))) else none)))) else none))) else none)))
set_option maxHeartbeats 4000000 in
theorem ev_104_201 : ∀ (n : Nat) (x1 x2 x4 x5 x6 : Int32) (D : am_DD) (y : Int32) (Z : am_DD), fn_104_201 n x1 x2 x4 x5 x6 D = some (y, Z) → ay_tw 104 201 [some (.ref 0), some (.int x1), some (.int x2), some (.ref am_scr), some (.int x4), some (.int x5), some (.int x6)] [] D (.inl (some (.int y))) Z := by
  intro n
  induction n with
  | zero => intro x1 x2 x4 x5 x6 D y Z h; cases h
  | succ n ih =>
    intro x1 x2 x4 x5 x6 D y Z h
    rw [fn_104_201] at h
    refine ay_w_loc (pc := 201) fe_104_201 rfl ?_
    refine ay_w_stk (pc := 203) (S' := [.int 40, .int x6]) fe_104_203 rfl ?_
    by_cases hc94 : 40 ≤ x6
    · rw [if_pos hc94] at h
      refine ay_w_pos (pc := 205) hc94 fe_104_205 rfl ?_
      refine ay_w_stk (pc := 273) (S' := [.int 0]) fe_104_273 rfl ?_
      refine ay_w_loc (pc := 274) (L' := [some (.ref 0), some (.int x1), some (.int x2), some (.ref am_scr), some (.int x4), some (.int x5), some (.int 0)]) fe_104_274 rfl ?_
      exact ay_w_less (ay_ls (ay_ls (ay_ln (ay_ls (ay_ls (ay_ls (ay_ls ay_l0))))))) (ev_104_276 _ _ _ _ _ _ _ _ h)
    · rw [if_neg hc94] at h
      refine ay_w_neg (pc := 205) hc94 fe_104_205 rfl ?_
      refine ay_w_loc (pc := 208) fe_104_208 rfl ?_
      refine ay_w_stk (pc := 209) (S' := [.int 3, .ref 0]) fe_104_209 rfl ?_
      cases hk97 : fn_14 3 D with
      | none => rw [hk97] at h; cases h
      | some z =>
        obtain ⟨y95, k147, D96⟩ := z
        rw [hk97] at h
        dsimp only at h
        by_cases hz148 : k147 = 0
        case neg => rw [if_neg hz148] at h; cases h
        rw [if_pos hz148] at h
        subst hz148
        refine ay_w_call (pc := 210) (w := some (.int y95)) fe_104_210 (ay_args [.ref 0, .int 3] [] rfl rfl (Nat.le_of_ble_eq_true rfl) (Nat.le_of_ble_eq_true rfl)) (ay_rcvV at_0 rfl) (ev_14 hk97) ?_
        by_cases hc98 : 0 < y95
        · rw [if_pos hc98] at h
          refine ay_w_pos (pc := 213) hc98 fe_104_213 rfl ?_
          refine ay_w_loc (pc := 224) fe_104_224 rfl ?_
          refine ay_w_loc (pc := 225) fe_104_225 rfl ?_
          refine ay_w_loc (pc := 226) fe_104_226 rfl ?_
          refine ay_w_stk (pc := 228) (S' := [.int (x2 >>> (x6 &&& 31)), .ref 0]) fe_104_228 rfl ?_
          refine ay_w_stk (pc := 229) (S' := [.int 5, .int (x2 >>> (x6 &&& 31)), .ref 0]) fe_104_229 rfl ?_
          cases hk101 : fn_70 (x2 >>> (x6 &&& 31)) 5 D96 with
          | none => rw [hk101] at h; cases h
          | some z =>
            obtain ⟨y99, D100⟩ := z
            rw [hk101] at h
            dsimp only at h
            refine ay_w_call (pc := 230) (w := some (.int y99)) fe_104_230 (ay_args [.int (x2 >>> (x6 &&& 31)), .int 5] [.ref 0] rfl rfl (Nat.le_of_ble_eq_true rfl) (Nat.le_of_ble_eq_true rfl)) rfl (ev_70 hk101) ?_
            cases hk104 : fn_90 y99 D100 with
            | none => rw [hk104] at h; cases h
            | some z =>
              obtain ⟨y102, k118, D103⟩ := z
              rw [hk104] at h
              dsimp only at h
              by_cases hz119 : k118 = 0
              case neg => rw [if_neg hz119] at h; cases h
              rw [if_pos hz119] at h
              subst hz119
              refine ay_w_call (pc := 233) (w := some (.int y102)) fe_104_233 (ay_args [.ref 0, .int y99] [] rfl rfl (Nat.le_of_ble_eq_true rfl) (Nat.le_of_ble_eq_true rfl)) (ay_rcvV at_0 rfl) (ev_90 hk104) ?_
              by_cases hc105 : y102 < 0
              · rw [if_pos hc105] at h
                refine ay_w_pos (pc := 236) hc105 fe_104_236 rfl ?_
                refine ay_w_stk (pc := 265) (S' := [.int 0]) fe_104_265 rfl ?_
                cases h
                exact ay_w_iret fe_104_266 rfl rfl
              · rw [if_neg hc105] at h
                refine ay_w_neg (pc := 236) hc105 fe_104_236 rfl ?_
                refine ay_w_loc (pc := 239) fe_104_239 rfl ?_
                refine ay_w_loc (pc := 240) fe_104_240 rfl ?_
                refine ay_w_stk (pc := 242) (S' := [.int 5, .int x6, .ref 0]) fe_104_242 rfl ?_
                refine ay_w_stk (pc := 243) (S' := [.int (x6 - x6 / 5 * 5), .ref 0]) fe_104_243 (ay_irem (by decide)) ?_
                cases hk108 : fn_90 (x6 - x6 / 5 * 5) D103 with
                | none => rw [hk108] at h; cases h
                | some z =>
                  obtain ⟨y106, k116, D107⟩ := z
                  rw [hk108] at h
                  dsimp only at h
                  by_cases hz117 : k116 = 0
                  case neg => rw [if_neg hz117] at h; cases h
                  rw [if_pos hz117] at h
                  subst hz117
                  refine ay_w_call (pc := 244) (w := some (.int y106)) fe_104_244 (ay_args [.ref 0, .int (x6 - x6 / 5 * 5)] [] rfl rfl (Nat.le_of_ble_eq_true rfl) (Nat.le_of_ble_eq_true rfl)) (ay_rcvV at_0 rfl) (ev_90 hk108) ?_
                  by_cases hc109 : y106 < 0
                  · rw [if_pos hc109] at h
                    refine ay_w_pos (pc := 247) hc109 fe_104_247 rfl ?_
                    refine ay_w_stk (pc := 265) (S' := [.int 0]) fe_104_265 rfl ?_
                    cases h
                    exact ay_w_iret fe_104_266 rfl rfl
                  · rw [if_neg hc109] at h
                    refine ay_w_neg (pc := 247) hc109 fe_104_247 rfl ?_
                    refine ay_w_loc (pc := 250) fe_104_250 rfl ?_
                    refine ay_w_stk (pc := 251) (S' := [.int 20, .ref 0]) fe_104_251 rfl ?_
                    refine ay_w_loc (pc := 253) fe_104_253 rfl ?_
                    refine ay_w_stk (pc := 255) (S' := [.int 30, .int x6, .int 20, .ref 0]) fe_104_255 rfl ?_
                    refine ay_w_stk (pc := 257) (S' := [.int (x6 - x6 / 30 * 30), .int 20, .ref 0]) fe_104_257 (ay_irem (by decide)) ?_
                    refine ay_w_stk (pc := 258) (S' := [.int (20 + (x6 - x6 / 30 * 30)), .ref 0]) fe_104_258 rfl ?_
                    cases hk112 : fn_103 (20 + (x6 - x6 / 30 * 30)) D107 with
                    | none => rw [hk112] at h; cases h
                    | some z =>
                      obtain ⟨y110, k114, D111⟩ := z
                      rw [hk112] at h
                      dsimp only at h
                      by_cases hz115 : k114 = 0
                      case neg => rw [if_neg hz115] at h; cases h
                      rw [if_pos hz115] at h
                      subst hz115
                      refine ay_w_call (pc := 259) (w := some (.int y110)) fe_104_259 (ay_args [.ref 0, .int (20 + (x6 - x6 / 30 * 30))] [] rfl rfl (Nat.le_of_ble_eq_true rfl) (Nat.le_of_ble_eq_true rfl)) (ay_rcvV at_0 rfl) (ev_103 hk112) ?_
                      by_cases hc113 : 0 ≤ y110
                      · rw [if_pos hc113] at h
                        refine ay_w_pos (pc := 262) hc113 fe_104_262 rfl ?_
                        refine ay_w_loc (pc := 267) (L' := [some (.ref 0), some (.int x1), some (.int x2), some (.ref am_scr), some (.int x4), some (.int x5), some (.int (x6 + 1))]) fe_104_267 rfl ?_
                        refine ay_w_br (pc := 270) (pc' := 201) fe_104_270 rfl ?_
                        exact ay_w_less (ay_ls (ay_ls (ay_ls (ay_ls (ay_ls (ay_ls (ay_ls ay_l0))))))) (ih _ _ _ _ _ _ _ _ h)
                      · rw [if_neg hc113] at h
                        refine ay_w_neg (pc := 262) hc113 fe_104_262 rfl ?_
                        refine ay_w_stk (pc := 265) (S' := [.int 0]) fe_104_265 rfl ?_
                        cases h
                        exact ay_w_iret fe_104_266 rfl rfl
        · rw [if_neg hc98] at h
          refine ay_w_neg (pc := 213) hc98 fe_104_213 rfl ?_
          refine ay_w_loc (pc := 216) fe_104_216 rfl ?_
          refine ay_w_stk (pc := 217) (S' := [.int 4, .ref 0]) fe_104_217 rfl ?_
          cases hk122 : fn_14 4 D96 with
          | none => rw [hk122] at h; cases h
          | some z =>
            obtain ⟨y120, k145, D121⟩ := z
            rw [hk122] at h
            dsimp only at h
            by_cases hz146 : k145 = 0
            case neg => rw [if_neg hz146] at h; cases h
            rw [if_pos hz146] at h
            subst hz146
            refine ay_w_call (pc := 218) (w := some (.int y120)) fe_104_218 (ay_args [.ref 0, .int 4] [] rfl rfl (Nat.le_of_ble_eq_true rfl) (Nat.le_of_ble_eq_true rfl)) (ay_rcvV at_0 rfl) (ev_14 hk122) ?_
            by_cases hc123 : y120 ≤ 0
            · rw [if_pos hc123] at h
              refine ay_w_pos (pc := 221) hc123 fe_104_221 rfl ?_
              refine ay_w_stk (pc := 273) (S' := [.int 0]) fe_104_273 rfl ?_
              refine ay_w_loc (pc := 274) (L' := [some (.ref 0), some (.int x1), some (.int x2), some (.ref am_scr), some (.int x4), some (.int x5), some (.int 0)]) fe_104_274 rfl ?_
              exact ay_w_less (ay_ls (ay_ls (ay_ln (ay_ls (ay_ls (ay_ls (ay_ls ay_l0))))))) (ev_104_276 _ _ _ _ _ _ _ _ h)
            · rw [if_neg hc123] at h
              refine ay_w_neg (pc := 221) hc123 fe_104_221 rfl ?_
              refine ay_w_loc (pc := 224) fe_104_224 rfl ?_
              refine ay_w_loc (pc := 225) fe_104_225 rfl ?_
              refine ay_w_loc (pc := 226) fe_104_226 rfl ?_
              refine ay_w_stk (pc := 228) (S' := [.int (x2 >>> (x6 &&& 31)), .ref 0]) fe_104_228 rfl ?_
              refine ay_w_stk (pc := 229) (S' := [.int 5, .int (x2 >>> (x6 &&& 31)), .ref 0]) fe_104_229 rfl ?_
              cases hk126 : fn_70 (x2 >>> (x6 &&& 31)) 5 D121 with
              | none => rw [hk126] at h; cases h
              | some z =>
                obtain ⟨y124, D125⟩ := z
                rw [hk126] at h
                dsimp only at h
                refine ay_w_call (pc := 230) (w := some (.int y124)) fe_104_230 (ay_args [.int (x2 >>> (x6 &&& 31)), .int 5] [.ref 0] rfl rfl (Nat.le_of_ble_eq_true rfl) (Nat.le_of_ble_eq_true rfl)) rfl (ev_70 hk126) ?_
                cases hk129 : fn_90 y124 D125 with
                | none => rw [hk129] at h; cases h
                | some z =>
                  obtain ⟨y127, k143, D128⟩ := z
                  rw [hk129] at h
                  dsimp only at h
                  by_cases hz144 : k143 = 0
                  case neg => rw [if_neg hz144] at h; cases h
                  rw [if_pos hz144] at h
                  subst hz144
                  refine ay_w_call (pc := 233) (w := some (.int y127)) fe_104_233 (ay_args [.ref 0, .int y124] [] rfl rfl (Nat.le_of_ble_eq_true rfl) (Nat.le_of_ble_eq_true rfl)) (ay_rcvV at_0 rfl) (ev_90 hk129) ?_
                  by_cases hc130 : y127 < 0
                  · rw [if_pos hc130] at h
                    refine ay_w_pos (pc := 236) hc130 fe_104_236 rfl ?_
                    refine ay_w_stk (pc := 265) (S' := [.int 0]) fe_104_265 rfl ?_
                    cases h
                    exact ay_w_iret fe_104_266 rfl rfl
                  · rw [if_neg hc130] at h
                    refine ay_w_neg (pc := 236) hc130 fe_104_236 rfl ?_
                    refine ay_w_loc (pc := 239) fe_104_239 rfl ?_
                    refine ay_w_loc (pc := 240) fe_104_240 rfl ?_
                    refine ay_w_stk (pc := 242) (S' := [.int 5, .int x6, .ref 0]) fe_104_242 rfl ?_
                    refine ay_w_stk (pc := 243) (S' := [.int (x6 - x6 / 5 * 5), .ref 0]) fe_104_243 (ay_irem (by decide)) ?_
                    cases hk133 : fn_90 (x6 - x6 / 5 * 5) D128 with
                    | none => rw [hk133] at h; cases h
                    | some z =>
                      obtain ⟨y131, k141, D132⟩ := z
                      rw [hk133] at h
                      dsimp only at h
                      by_cases hz142 : k141 = 0
                      case neg => rw [if_neg hz142] at h; cases h
                      rw [if_pos hz142] at h
                      subst hz142
                      refine ay_w_call (pc := 244) (w := some (.int y131)) fe_104_244 (ay_args [.ref 0, .int (x6 - x6 / 5 * 5)] [] rfl rfl (Nat.le_of_ble_eq_true rfl) (Nat.le_of_ble_eq_true rfl)) (ay_rcvV at_0 rfl) (ev_90 hk133) ?_
                      by_cases hc134 : y131 < 0
                      · rw [if_pos hc134] at h
                        refine ay_w_pos (pc := 247) hc134 fe_104_247 rfl ?_
                        refine ay_w_stk (pc := 265) (S' := [.int 0]) fe_104_265 rfl ?_
                        cases h
                        exact ay_w_iret fe_104_266 rfl rfl
                      · rw [if_neg hc134] at h
                        refine ay_w_neg (pc := 247) hc134 fe_104_247 rfl ?_
                        refine ay_w_loc (pc := 250) fe_104_250 rfl ?_
                        refine ay_w_stk (pc := 251) (S' := [.int 20, .ref 0]) fe_104_251 rfl ?_
                        refine ay_w_loc (pc := 253) fe_104_253 rfl ?_
                        refine ay_w_stk (pc := 255) (S' := [.int 30, .int x6, .int 20, .ref 0]) fe_104_255 rfl ?_
                        refine ay_w_stk (pc := 257) (S' := [.int (x6 - x6 / 30 * 30), .int 20, .ref 0]) fe_104_257 (ay_irem (by decide)) ?_
                        refine ay_w_stk (pc := 258) (S' := [.int (20 + (x6 - x6 / 30 * 30)), .ref 0]) fe_104_258 rfl ?_
                        cases hk137 : fn_103 (20 + (x6 - x6 / 30 * 30)) D132 with
                        | none => rw [hk137] at h; cases h
                        | some z =>
                          obtain ⟨y135, k139, D136⟩ := z
                          rw [hk137] at h
                          dsimp only at h
                          by_cases hz140 : k139 = 0
                          case neg => rw [if_neg hz140] at h; cases h
                          rw [if_pos hz140] at h
                          subst hz140
                          refine ay_w_call (pc := 259) (w := some (.int y135)) fe_104_259 (ay_args [.ref 0, .int (20 + (x6 - x6 / 30 * 30))] [] rfl rfl (Nat.le_of_ble_eq_true rfl) (Nat.le_of_ble_eq_true rfl)) (ay_rcvV at_0 rfl) (ev_103 hk137) ?_
                          by_cases hc138 : 0 ≤ y135
                          · rw [if_pos hc138] at h
                            refine ay_w_pos (pc := 262) hc138 fe_104_262 rfl ?_
                            refine ay_w_loc (pc := 267) (L' := [some (.ref 0), some (.int x1), some (.int x2), some (.ref am_scr), some (.int x4), some (.int x5), some (.int (x6 + 1))]) fe_104_267 rfl ?_
                            refine ay_w_br (pc := 270) (pc' := 201) fe_104_270 rfl ?_
                            exact ay_w_less (ay_ls (ay_ls (ay_ls (ay_ls (ay_ls (ay_ls (ay_ls ay_l0))))))) (ih _ _ _ _ _ _ _ _ h)
                          · rw [if_neg hc138] at h
                            refine ay_w_neg (pc := 262) hc138 fe_104_262 rfl ?_
                            refine ay_w_stk (pc := 265) (S' := [.int 0]) fe_104_265 rfl ?_
                            cases h
                            exact ay_w_iret fe_104_266 rfl rfl
def fn_104_107 : Nat → Int32 → Int32 → Int32 → Int32 → am_DD → Option (Int32 × am_DD)
  | 0, _, _, _, _, _ => none
  | n + 1, x1, x2, x4, x5, D => (if 17 ≤ x5 then (match fn_93 x1 D with | none => none | some (y59, k62, D60) => (if k62 = 0 then fn_104_201 am_F x1 x2 x4 y59 0 D60 else none)) else (if 12 ≤ x5 then (match fn_33 (x5 - 12) 1 D with | none => none | some (y65, k74, D66) => (if k74 = 0 then (match fn_59 x1 (8 + x5) 1 D66 with | none => none | some (y68, k72, D69) => (if k72 = 0 then (if x5 < 0 ∨ 17 ≤ x5.toNatClampNeg then none else fn_104_107 n x1 x2 x4 (x5 + 1) (am_upd D69 am_scr x5.toNatClampNeg (y65 + y68))) else none)) else none)) else (if x4 ≤ x5 then (if x5 < 0 ∨ 17 ≤ x5.toNatClampNeg then none else fn_104_107 n x1 x2 x4 (x5 + 1) (am_upd D am_scr x5.toNatClampNeg 0)) else (match fn_44 x5 4 D with | none => none | some (y78, k92, D79) => (if k92 = 0 then (match fn_44 x5 5 D79 with | none => none | some (y81, k90, D82) => (if k90 = 0 then (match fn_59 x1 x5 0 D82 with | none => none | some (y84, k88, D85) => (if k88 = 0 then (if x5 < 0 ∨ 17 ≤ x5.toNatClampNeg then none else fn_104_107 n x1 x2 x4 (x5 + 1) (am_upd D85 am_scr x5.toNatClampNeg ((y78 + y81) + y84))) else none)) else none)) else none)))))
set_option maxHeartbeats 4000000 in
theorem ev_104_107 : ∀ (n : Nat) (x1 x2 x4 x5 : Int32) (D : am_DD) (y : Int32) (Z : am_DD), fn_104_107 n x1 x2 x4 x5 D = some (y, Z) → ay_tw 104 107 [some (.ref 0), some (.int x1), some (.int x2), some (.ref am_scr), some (.int x4), some (.int x5), none] [] D (.inl (some (.int y))) Z := by
  intro n
  induction n with
  | zero => intro x1 x2 x4 x5 D y Z h; cases h
  | succ n ih =>
    intro x1 x2 x4 x5 D y Z h
    rw [fn_104_107] at h
    refine ay_w_loc (pc := 107) fe_104_107 rfl ?_
    refine ay_w_stk (pc := 109) (S' := [.int 17, .int x5]) fe_104_109 rfl ?_
    by_cases hc58 : 17 ≤ x5
    · rw [if_pos hc58] at h
      refine ay_w_pos (pc := 111) hc58 fe_104_111 rfl ?_
      refine ay_w_loc (pc := 191) fe_104_191 rfl ?_
      refine ay_w_loc (pc := 192) fe_104_192 rfl ?_
      cases hk61 : fn_93 x1 D with
      | none => rw [hk61] at h; cases h
      | some z =>
        obtain ⟨y59, k62, D60⟩ := z
        rw [hk61] at h
        dsimp only at h
        by_cases hz63 : k62 = 0
        case neg => rw [if_neg hz63] at h; cases h
        rw [if_pos hz63] at h
        subst hz63
        refine ay_w_call (pc := 193) (w := some (.int y59)) fe_104_193 (ay_args [.ref 0, .int x1] [] rfl rfl (Nat.le_of_ble_eq_true rfl) (Nat.le_of_ble_eq_true rfl)) (ay_rcvV at_0 rfl) (ev_93 hk61) ?_
        refine ay_w_loc (pc := 196) (L' := [some (.ref 0), some (.int x1), some (.int x2), some (.ref am_scr), some (.int x4), some (.int y59), none]) fe_104_196 rfl ?_
        refine ay_w_stk (pc := 198) (S' := [.int 0]) fe_104_198 rfl ?_
        refine ay_w_loc (pc := 199) (L' := [some (.ref 0), some (.int x1), some (.int x2), some (.ref am_scr), some (.int x4), some (.int y59), some (.int 0)]) fe_104_199 rfl ?_
        exact ay_w_less (ay_ls (ay_ls (ay_ls (ay_ls (ay_ls (ay_ls (ay_ls ay_l0))))))) (ev_104_201 _ _ _ _ _ _ _ _ _ h)
    · rw [if_neg hc58] at h
      refine ay_w_neg (pc := 111) hc58 fe_104_111 rfl ?_
      refine ay_w_loc (pc := 114) fe_104_114 rfl ?_
      refine ay_w_loc (pc := 115) fe_104_115 rfl ?_
      refine ay_w_loc (pc := 117) fe_104_117 rfl ?_
      refine ay_w_stk (pc := 119) (S' := [.int 12, .int x5, .int x5, .ref am_scr]) fe_104_119 rfl ?_
      by_cases hc64 : 12 ≤ x5
      · rw [if_pos hc64] at h
        refine ay_w_pos (pc := 121) hc64 fe_104_121 rfl ?_
        refine ay_w_loc (pc := 162) fe_104_162 rfl ?_
        refine ay_w_loc (pc := 163) fe_104_163 rfl ?_
        refine ay_w_stk (pc := 165) (S' := [.int 12, .int x5, .ref 0, .int x5, .ref am_scr]) fe_104_165 rfl ?_
        refine ay_w_stk (pc := 167) (S' := [.int (x5 - 12), .ref 0, .int x5, .ref am_scr]) fe_104_167 rfl ?_
        refine ay_w_stk (pc := 168) (S' := [.int 1, .int (x5 - 12), .ref 0, .int x5, .ref am_scr]) fe_104_168 rfl ?_
        cases hk67 : fn_33 (x5 - 12) 1 D with
        | none => rw [hk67] at h; cases h
        | some z =>
          obtain ⟨y65, k74, D66⟩ := z
          rw [hk67] at h
          dsimp only at h
          by_cases hz75 : k74 = 0
          case neg => rw [if_neg hz75] at h; cases h
          rw [if_pos hz75] at h
          subst hz75
          refine ay_w_call (pc := 169) (w := some (.int y65)) fe_104_169 (ay_args [.ref 0, .int (x5 - 12), .int 1] [.int x5, .ref am_scr] rfl rfl (Nat.le_of_ble_eq_true rfl) (Nat.le_of_ble_eq_true rfl)) (ay_rcvV at_0 rfl) (ev_33 hk67) ?_
          refine ay_w_loc (pc := 172) fe_104_172 rfl ?_
          refine ay_w_loc (pc := 173) fe_104_173 rfl ?_
          refine ay_w_stk (pc := 174) (S' := [.int 8, .int x1, .ref 0, .int y65, .int x5, .ref am_scr]) fe_104_174 rfl ?_
          refine ay_w_loc (pc := 176) fe_104_176 rfl ?_
          refine ay_w_stk (pc := 178) (S' := [.int (8 + x5), .int x1, .ref 0, .int y65, .int x5, .ref am_scr]) fe_104_178 rfl ?_
          refine ay_w_stk (pc := 179) (S' := [.int 1, .int (8 + x5), .int x1, .ref 0, .int y65, .int x5, .ref am_scr]) fe_104_179 rfl ?_
          cases hk70 : fn_59 x1 (8 + x5) 1 D66 with
          | none => rw [hk70] at h; cases h
          | some z =>
            obtain ⟨y68, k72, D69⟩ := z
            rw [hk70] at h
            dsimp only at h
            by_cases hz73 : k72 = 0
            case neg => rw [if_neg hz73] at h; cases h
            rw [if_pos hz73] at h
            subst hz73
            refine ay_w_call (pc := 180) (w := some (.int y68)) fe_104_180 (ay_args [.ref 0, .int x1, .int (8 + x5), .int 1] [.int y65, .int x5, .ref am_scr] rfl rfl (Nat.le_of_ble_eq_true rfl) (Nat.le_of_ble_eq_true rfl)) (ay_rcvV at_0 rfl) (ev_59 hk70) ?_
            refine ay_w_stk (pc := 183) (S' := [.int (y65 + y68), .int x5, .ref am_scr]) fe_104_183 rfl ?_
            by_cases hb71 : x5 < 0 ∨ 17 ≤ x5.toNatClampNeg
            · rw [if_pos hb71] at h; cases h
            rw [if_neg hb71] at h
            refine ay_w_iastoreS (pc := 184) fe_104_184 hb71 ?_
            refine ay_w_loc (pc := 185) (L' := [some (.ref 0), some (.int x1), some (.int x2), some (.ref am_scr), some (.int x4), some (.int (x5 + 1)), none]) fe_104_185 rfl ?_
            refine ay_w_br (pc := 188) (pc' := 107) fe_104_188 rfl ?_
            exact ay_w_less (ay_ls (ay_ls (ay_ls (ay_ls (ay_ls (ay_ls (ay_ls ay_l0))))))) (ih _ _ _ _ _ _ _ h)
      · rw [if_neg hc64] at h
        refine ay_w_neg (pc := 121) hc64 fe_104_121 rfl ?_
        refine ay_w_loc (pc := 124) fe_104_124 rfl ?_
        refine ay_w_loc (pc := 126) fe_104_126 rfl ?_
        by_cases hc76 : x4 ≤ x5
        · rw [if_pos hc76] at h
          refine ay_w_pos (pc := 128) hc76 fe_104_128 rfl ?_
          refine ay_w_stk (pc := 158) (S' := [.int 0, .int x5, .ref am_scr]) fe_104_158 rfl ?_
          refine ay_w_br (pc := 159) (pc' := 184) fe_104_159 rfl ?_
          by_cases hb77 : x5 < 0 ∨ 17 ≤ x5.toNatClampNeg
          · rw [if_pos hb77] at h; cases h
          rw [if_neg hb77] at h
          refine ay_w_iastoreS (pc := 184) fe_104_184 hb77 ?_
          refine ay_w_loc (pc := 185) (L' := [some (.ref 0), some (.int x1), some (.int x2), some (.ref am_scr), some (.int x4), some (.int (x5 + 1)), none]) fe_104_185 rfl ?_
          refine ay_w_br (pc := 188) (pc' := 107) fe_104_188 rfl ?_
          exact ay_w_less (ay_ls (ay_ls (ay_ls (ay_ls (ay_ls (ay_ls (ay_ls ay_l0))))))) (ih _ _ _ _ _ _ _ h)
        · rw [if_neg hc76] at h
          refine ay_w_neg (pc := 128) hc76 fe_104_128 rfl ?_
          refine ay_w_loc (pc := 131) fe_104_131 rfl ?_
          refine ay_w_loc (pc := 132) fe_104_132 rfl ?_
          refine ay_w_stk (pc := 134) (S' := [.int 4, .int x5, .ref 0, .int x5, .ref am_scr]) fe_104_134 rfl ?_
          cases hk80 : fn_44 x5 4 D with
          | none => rw [hk80] at h; cases h
          | some z =>
            obtain ⟨y78, k92, D79⟩ := z
            rw [hk80] at h
            dsimp only at h
            by_cases hz93 : k92 = 0
            case neg => rw [if_neg hz93] at h; cases h
            rw [if_pos hz93] at h
            subst hz93
            refine ay_w_call (pc := 135) (w := some (.int y78)) fe_104_135 (ay_args [.ref 0, .int x5, .int 4] [.int x5, .ref am_scr] rfl rfl (Nat.le_of_ble_eq_true rfl) (Nat.le_of_ble_eq_true rfl)) (ay_rcvV at_0 rfl) (ev_44 hk80) ?_
            refine ay_w_loc (pc := 138) fe_104_138 rfl ?_
            refine ay_w_loc (pc := 139) fe_104_139 rfl ?_
            refine ay_w_stk (pc := 141) (S' := [.int 5, .int x5, .ref 0, .int y78, .int x5, .ref am_scr]) fe_104_141 rfl ?_
            cases hk83 : fn_44 x5 5 D79 with
            | none => rw [hk83] at h; cases h
            | some z =>
              obtain ⟨y81, k90, D82⟩ := z
              rw [hk83] at h
              dsimp only at h
              by_cases hz91 : k90 = 0
              case neg => rw [if_neg hz91] at h; cases h
              rw [if_pos hz91] at h
              subst hz91
              refine ay_w_call (pc := 142) (w := some (.int y81)) fe_104_142 (ay_args [.ref 0, .int x5, .int 5] [.int y78, .int x5, .ref am_scr] rfl rfl (Nat.le_of_ble_eq_true rfl) (Nat.le_of_ble_eq_true rfl)) (ay_rcvV at_0 rfl) (ev_44 hk83) ?_
              refine ay_w_stk (pc := 145) (S' := [.int (y78 + y81), .int x5, .ref am_scr]) fe_104_145 rfl ?_
              refine ay_w_loc (pc := 146) fe_104_146 rfl ?_
              refine ay_w_loc (pc := 147) fe_104_147 rfl ?_
              refine ay_w_loc (pc := 148) fe_104_148 rfl ?_
              refine ay_w_stk (pc := 150) (S' := [.int 0, .int x5, .int x1, .ref 0, .int (y78 + y81), .int x5, .ref am_scr]) fe_104_150 rfl ?_
              cases hk86 : fn_59 x1 x5 0 D82 with
              | none => rw [hk86] at h; cases h
              | some z =>
                obtain ⟨y84, k88, D85⟩ := z
                rw [hk86] at h
                dsimp only at h
                by_cases hz89 : k88 = 0
                case neg => rw [if_neg hz89] at h; cases h
                rw [if_pos hz89] at h
                subst hz89
                refine ay_w_call (pc := 151) (w := some (.int y84)) fe_104_151 (ay_args [.ref 0, .int x1, .int x5, .int 0] [.int (y78 + y81), .int x5, .ref am_scr] rfl rfl (Nat.le_of_ble_eq_true rfl) (Nat.le_of_ble_eq_true rfl)) (ay_rcvV at_0 rfl) (ev_59 hk86) ?_
                refine ay_w_stk (pc := 154) (S' := [.int ((y78 + y81) + y84), .int x5, .ref am_scr]) fe_104_154 rfl ?_
                refine ay_w_br (pc := 155) (pc' := 184) fe_104_155 rfl ?_
                by_cases hb87 : x5 < 0 ∨ 17 ≤ x5.toNatClampNeg
                · rw [if_pos hb87] at h; cases h
                rw [if_neg hb87] at h
                refine ay_w_iastoreS (pc := 184) fe_104_184 hb87 ?_
                refine ay_w_loc (pc := 185) (L' := [some (.ref 0), some (.int x1), some (.int x2), some (.ref am_scr), some (.int x4), some (.int (x5 + 1)), none]) fe_104_185 rfl ?_
                refine ay_w_br (pc := 188) (pc' := 107) fe_104_188 rfl ?_
                exact ay_w_less (ay_ls (ay_ls (ay_ls (ay_ls (ay_ls (ay_ls (ay_ls ay_l0))))))) (ih _ _ _ _ _ _ _ h)
def fn_104_m : Nat → Nat → Int32 → Int32 → Int32 → Int32 → Int32 → am_DD → Option (Int32 × am_DD)
  | 0, _, _, _, _, _, _, _ => none
  | n + 1, 0, x1, x2, x4, x5, x6, D => (if 40 ≤ x5 then (if x4 = 0 then some (1, D) else (match fn_14 3 D with | none => none | some (y8, k18, D9) => (if k18 = 0 then (if 0 < y8 then some (1, D9) else (match fn_14 4 D9 with | none => none | some (y12, k16, D13) => (if k16 = 0 then (if y12 ≤ 0 then fn_104_107 am_F x1 x2 x4 0 D13 else some (1, D13)) else none))) else none))) else (match fn_14 3 D with | none => none | some (y20, k43, D21) => (if k43 = 0 then (if 0 < y20 then fn_104_m n 1 x1 x2 x4 x5 0 D21 else (match fn_14 4 D21 with | none => none | some (y24, k41, D25) => (if k41 = 0 then (if y24 ≤ 0 then (if x4 = 0 then some (1, D25) else (match fn_14 3 D25 with | none => none | some (y29, k39, D30) => (if k39 = 0 then (if 0 < y29 then some (1, D30) else (match fn_14 4 D30 with | none => none | some (y33, k37, D34) => (if k37 = 0 then (if y33 ≤ 0 then fn_104_107 am_F x1 x2 x4 0 D34 else some (1, D34)) else none))) else none))) else fn_104_m n 1 x1 x2 x4 x5 0 D25) else none))) else none)))
  | n + 1, _ + 1, x1, x2, x4, x5, x6, D => (if 5 ≤ x6 then (match fn_103 50 D with | none => none | some (y46, k50, D47) => (if k50 = 0 then (if 0 ≤ y46 then fn_104_m n 0 x1 x2 x4 (x5 + 1) 0 D47 else some (0, D47)) else none)) else (match fn_90 x6 D with | none => none | some (y52, k56, D53) => (if k56 = 0 then (if 0 ≤ y52 then fn_104_m n 1 x1 x2 x4 x5 (x6 + 1) D53 else some (0, D53)) else none)))
set_option maxHeartbeats 4000000 in
theorem ev_104_m : ∀ N : Nat, (∀ (x1 x2 x4 x5 x6 : Int32) (D : am_DD) (y : Int32) (Z : am_DD), fn_104_m N 0 x1 x2 x4 x5 x6 D = some (y, Z) → ay_tw 104 15 [some (.ref 0), some (.int x1), some (.int x2), some (.ref am_scr), some (.int x4), some (.int x5), none] [] D (.inl (some (.int y))) Z) ∧ (∀ (x1 x2 x4 x5 x6 : Int32) (D : am_DD) (y : Int32) (Z : am_DD), fn_104_m N 1 x1 x2 x4 x5 x6 D = some (y, Z) → ay_tw 104 41 [some (.ref 0), some (.int x1), some (.int x2), some (.ref am_scr), some (.int x4), some (.int x5), some (.int x6)] [] D (.inl (some (.int y))) Z) := by
  intro N
  induction N with
  | zero => exact ⟨(fun x1 x2 x4 x5 x6 D y Z h => (by cases h)), (fun x1 x2 x4 x5 x6 D y Z h => (by cases h))⟩
  | succ n ih =>
    refine ⟨?_, ?_⟩
    · intro x1 x2 x4 x5 x6 D y Z h
      rw [fn_104_m] at h
      refine ay_w_loc (pc := 15) fe_104_15 rfl ?_
      refine ay_w_stk (pc := 17) (S' := [.int 40, .int x5]) fe_104_17 rfl ?_
      by_cases hc6 : 40 ≤ x5
      · rw [if_pos hc6] at h
        refine ay_w_pos (pc := 19) hc6 fe_104_19 rfl ?_
        refine ay_w_loc (pc := 81) fe_104_81 rfl ?_
        by_cases hc7 : x4 = 0
        · rw [if_pos hc7] at h
          refine ay_w_pos (pc := 83) hc7 fe_104_83 rfl ?_
          refine ay_w_stk (pc := 102) (S' := [.int 1]) fe_104_102 rfl ?_
          cases h
          exact ay_w_iret fe_104_103 rfl rfl
        · rw [if_neg hc7] at h
          refine ay_w_neg (pc := 83) hc7 fe_104_83 rfl ?_
          refine ay_w_loc (pc := 86) fe_104_86 rfl ?_
          refine ay_w_stk (pc := 87) (S' := [.int 3, .ref 0]) fe_104_87 rfl ?_
          cases hk10 : fn_14 3 D with
          | none => rw [hk10] at h; cases h
          | some z =>
            obtain ⟨y8, k18, D9⟩ := z
            rw [hk10] at h
            dsimp only at h
            by_cases hz19 : k18 = 0
            case neg => rw [if_neg hz19] at h; cases h
            rw [if_pos hz19] at h
            subst hz19
            refine ay_w_call (pc := 88) (w := some (.int y8)) fe_104_88 (ay_args [.ref 0, .int 3] [] rfl rfl (Nat.le_of_ble_eq_true rfl) (Nat.le_of_ble_eq_true rfl)) (ay_rcvV at_0 rfl) (ev_14 hk10) ?_
            by_cases hc11 : 0 < y8
            · rw [if_pos hc11] at h
              refine ay_w_pos (pc := 91) hc11 fe_104_91 rfl ?_
              refine ay_w_stk (pc := 102) (S' := [.int 1]) fe_104_102 rfl ?_
              cases h
              exact ay_w_iret fe_104_103 rfl rfl
            · rw [if_neg hc11] at h
              refine ay_w_neg (pc := 91) hc11 fe_104_91 rfl ?_
              refine ay_w_loc (pc := 94) fe_104_94 rfl ?_
              refine ay_w_stk (pc := 95) (S' := [.int 4, .ref 0]) fe_104_95 rfl ?_
              cases hk14 : fn_14 4 D9 with
              | none => rw [hk14] at h; cases h
              | some z =>
                obtain ⟨y12, k16, D13⟩ := z
                rw [hk14] at h
                dsimp only at h
                by_cases hz17 : k16 = 0
                case neg => rw [if_neg hz17] at h; cases h
                rw [if_pos hz17] at h
                subst hz17
                refine ay_w_call (pc := 96) (w := some (.int y12)) fe_104_96 (ay_args [.ref 0, .int 4] [] rfl rfl (Nat.le_of_ble_eq_true rfl) (Nat.le_of_ble_eq_true rfl)) (ay_rcvV at_0 rfl) (ev_14 hk14) ?_
                by_cases hc15 : y12 ≤ 0
                · rw [if_pos hc15] at h
                  refine ay_w_pos (pc := 99) hc15 fe_104_99 rfl ?_
                  refine ay_w_stk (pc := 104) (S' := [.int 0]) fe_104_104 rfl ?_
                  refine ay_w_loc (pc := 105) (L' := [some (.ref 0), some (.int x1), some (.int x2), some (.ref am_scr), some (.int x4), some (.int 0), none]) fe_104_105 rfl ?_
                  exact ay_w_less (ay_ls (ay_ls (ay_ls (ay_ls (ay_ls (ay_ls (ay_ls ay_l0))))))) (ev_104_107 _ _ _ _ _ _ _ _ h)
                · rw [if_neg hc15] at h
                  refine ay_w_neg (pc := 99) hc15 fe_104_99 rfl ?_
                  refine ay_w_stk (pc := 102) (S' := [.int 1]) fe_104_102 rfl ?_
                  cases h
                  exact ay_w_iret fe_104_103 rfl rfl
      · rw [if_neg hc6] at h
        refine ay_w_neg (pc := 19) hc6 fe_104_19 rfl ?_
        refine ay_w_loc (pc := 22) fe_104_22 rfl ?_
        refine ay_w_stk (pc := 23) (S' := [.int 3, .ref 0]) fe_104_23 rfl ?_
        cases hk22 : fn_14 3 D with
        | none => rw [hk22] at h; cases h
        | some z =>
          obtain ⟨y20, k43, D21⟩ := z
          rw [hk22] at h
          dsimp only at h
          by_cases hz44 : k43 = 0
          case neg => rw [if_neg hz44] at h; cases h
          rw [if_pos hz44] at h
          subst hz44
          refine ay_w_call (pc := 24) (w := some (.int y20)) fe_104_24 (ay_args [.ref 0, .int 3] [] rfl rfl (Nat.le_of_ble_eq_true rfl) (Nat.le_of_ble_eq_true rfl)) (ay_rcvV at_0 rfl) (ev_14 hk22) ?_
          by_cases hc23 : 0 < y20
          · rw [if_pos hc23] at h
            refine ay_w_pos (pc := 27) hc23 fe_104_27 rfl ?_
            refine ay_w_stk (pc := 38) (S' := [.int 0]) fe_104_38 rfl ?_
            refine ay_w_loc (pc := 39) (L' := [some (.ref 0), some (.int x1), some (.int x2), some (.ref am_scr), some (.int x4), some (.int x5), some (.int 0)]) fe_104_39 rfl ?_
            exact ay_w_less (ay_ls (ay_ls (ay_ls (ay_ls (ay_ls (ay_ls (ay_ls ay_l0))))))) ((ih).2 _ _ _ _ _ _ _ _ h)
          · rw [if_neg hc23] at h
            refine ay_w_neg (pc := 27) hc23 fe_104_27 rfl ?_
            refine ay_w_loc (pc := 30) fe_104_30 rfl ?_
            refine ay_w_stk (pc := 31) (S' := [.int 4, .ref 0]) fe_104_31 rfl ?_
            cases hk26 : fn_14 4 D21 with
            | none => rw [hk26] at h; cases h
            | some z =>
              obtain ⟨y24, k41, D25⟩ := z
              rw [hk26] at h
              dsimp only at h
              by_cases hz42 : k41 = 0
              case neg => rw [if_neg hz42] at h; cases h
              rw [if_pos hz42] at h
              subst hz42
              refine ay_w_call (pc := 32) (w := some (.int y24)) fe_104_32 (ay_args [.ref 0, .int 4] [] rfl rfl (Nat.le_of_ble_eq_true rfl) (Nat.le_of_ble_eq_true rfl)) (ay_rcvV at_0 rfl) (ev_14 hk26) ?_
              by_cases hc27 : y24 ≤ 0
              · rw [if_pos hc27] at h
                refine ay_w_pos (pc := 35) hc27 fe_104_35 rfl ?_
                refine ay_w_loc (pc := 81) fe_104_81 rfl ?_
                by_cases hc28 : x4 = 0
                · rw [if_pos hc28] at h
                  refine ay_w_pos (pc := 83) hc28 fe_104_83 rfl ?_
                  refine ay_w_stk (pc := 102) (S' := [.int 1]) fe_104_102 rfl ?_
                  cases h
                  exact ay_w_iret fe_104_103 rfl rfl
                · rw [if_neg hc28] at h
                  refine ay_w_neg (pc := 83) hc28 fe_104_83 rfl ?_
                  refine ay_w_loc (pc := 86) fe_104_86 rfl ?_
                  refine ay_w_stk (pc := 87) (S' := [.int 3, .ref 0]) fe_104_87 rfl ?_
                  cases hk31 : fn_14 3 D25 with
                  | none => rw [hk31] at h; cases h
                  | some z =>
                    obtain ⟨y29, k39, D30⟩ := z
                    rw [hk31] at h
                    dsimp only at h
                    by_cases hz40 : k39 = 0
                    case neg => rw [if_neg hz40] at h; cases h
                    rw [if_pos hz40] at h
                    subst hz40
                    refine ay_w_call (pc := 88) (w := some (.int y29)) fe_104_88 (ay_args [.ref 0, .int 3] [] rfl rfl (Nat.le_of_ble_eq_true rfl) (Nat.le_of_ble_eq_true rfl)) (ay_rcvV at_0 rfl) (ev_14 hk31) ?_
                    by_cases hc32 : 0 < y29
                    · rw [if_pos hc32] at h
                      refine ay_w_pos (pc := 91) hc32 fe_104_91 rfl ?_
                      refine ay_w_stk (pc := 102) (S' := [.int 1]) fe_104_102 rfl ?_
                      cases h
                      exact ay_w_iret fe_104_103 rfl rfl
                    · rw [if_neg hc32] at h
                      refine ay_w_neg (pc := 91) hc32 fe_104_91 rfl ?_
                      refine ay_w_loc (pc := 94) fe_104_94 rfl ?_
                      refine ay_w_stk (pc := 95) (S' := [.int 4, .ref 0]) fe_104_95 rfl ?_
                      cases hk35 : fn_14 4 D30 with
                      | none => rw [hk35] at h; cases h
                      | some z =>
                        obtain ⟨y33, k37, D34⟩ := z
                        rw [hk35] at h
                        dsimp only at h
                        by_cases hz38 : k37 = 0
                        case neg => rw [if_neg hz38] at h; cases h
                        rw [if_pos hz38] at h
                        subst hz38
                        refine ay_w_call (pc := 96) (w := some (.int y33)) fe_104_96 (ay_args [.ref 0, .int 4] [] rfl rfl (Nat.le_of_ble_eq_true rfl) (Nat.le_of_ble_eq_true rfl)) (ay_rcvV at_0 rfl) (ev_14 hk35) ?_
                        by_cases hc36 : y33 ≤ 0
                        · rw [if_pos hc36] at h
                          refine ay_w_pos (pc := 99) hc36 fe_104_99 rfl ?_
                          refine ay_w_stk (pc := 104) (S' := [.int 0]) fe_104_104 rfl ?_
                          refine ay_w_loc (pc := 105) (L' := [some (.ref 0), some (.int x1), some (.int x2), some (.ref am_scr), some (.int x4), some (.int 0), none]) fe_104_105 rfl ?_
                          exact ay_w_less (ay_ls (ay_ls (ay_ls (ay_ls (ay_ls (ay_ls (ay_ls ay_l0))))))) (ev_104_107 _ _ _ _ _ _ _ _ h)
                        · rw [if_neg hc36] at h
                          refine ay_w_neg (pc := 99) hc36 fe_104_99 rfl ?_
                          refine ay_w_stk (pc := 102) (S' := [.int 1]) fe_104_102 rfl ?_
                          cases h
                          exact ay_w_iret fe_104_103 rfl rfl
              · rw [if_neg hc27] at h
                refine ay_w_neg (pc := 35) hc27 fe_104_35 rfl ?_
                refine ay_w_stk (pc := 38) (S' := [.int 0]) fe_104_38 rfl ?_
                refine ay_w_loc (pc := 39) (L' := [some (.ref 0), some (.int x1), some (.int x2), some (.ref am_scr), some (.int x4), some (.int x5), some (.int 0)]) fe_104_39 rfl ?_
                exact ay_w_less (ay_ls (ay_ls (ay_ls (ay_ls (ay_ls (ay_ls (ay_ls ay_l0))))))) ((ih).2 _ _ _ _ _ _ _ _ h)
    · intro x1 x2 x4 x5 x6 D y Z h
      rw [fn_104_m] at h
      refine ay_w_loc (pc := 41) fe_104_41 rfl ?_
      refine ay_w_stk (pc := 43) (S' := [.int 5, .int x6]) fe_104_43 rfl ?_
      by_cases hc45 : 5 ≤ x6
      · rw [if_pos hc45] at h
        refine ay_w_pos (pc := 44) hc45 fe_104_44 rfl ?_
        refine ay_w_loc (pc := 64) fe_104_64 rfl ?_
        refine ay_w_stk (pc := 65) (S' := [.int 50, .ref 0]) fe_104_65 rfl ?_
        cases hk48 : fn_103 50 D with
        | none => rw [hk48] at h; cases h
        | some z =>
          obtain ⟨y46, k50, D47⟩ := z
          rw [hk48] at h
          dsimp only at h
          by_cases hz51 : k50 = 0
          case neg => rw [if_neg hz51] at h; cases h
          rw [if_pos hz51] at h
          subst hz51
          refine ay_w_call (pc := 67) (w := some (.int y46)) fe_104_67 (ay_args [.ref 0, .int 50] [] rfl rfl (Nat.le_of_ble_eq_true rfl) (Nat.le_of_ble_eq_true rfl)) (ay_rcvV at_0 rfl) (ev_103 hk48) ?_
          by_cases hc49 : 0 ≤ y46
          · rw [if_pos hc49] at h
            refine ay_w_pos (pc := 70) hc49 fe_104_70 rfl ?_
            refine ay_w_loc (pc := 75) (L' := [some (.ref 0), some (.int x1), some (.int x2), some (.ref am_scr), some (.int x4), some (.int (x5 + 1)), some (.int x6)]) fe_104_75 rfl ?_
            refine ay_w_br (pc := 78) (pc' := 15) fe_104_78 rfl ?_
            exact ay_w_less (ay_ls (ay_ls (ay_ls (ay_ls (ay_ls (ay_ls (ay_ln ay_l0))))))) ((ih).1 _ _ _ _ _ _ _ _ h)
          · rw [if_neg hc49] at h
            refine ay_w_neg (pc := 70) hc49 fe_104_70 rfl ?_
            refine ay_w_stk (pc := 73) (S' := [.int 0]) fe_104_73 rfl ?_
            cases h
            exact ay_w_iret fe_104_74 rfl rfl
      · rw [if_neg hc45] at h
        refine ay_w_neg (pc := 44) hc45 fe_104_44 rfl ?_
        refine ay_w_loc (pc := 47) fe_104_47 rfl ?_
        refine ay_w_loc (pc := 48) fe_104_48 rfl ?_
        cases hk54 : fn_90 x6 D with
        | none => rw [hk54] at h; cases h
        | some z =>
          obtain ⟨y52, k56, D53⟩ := z
          rw [hk54] at h
          dsimp only at h
          by_cases hz57 : k56 = 0
          case neg => rw [if_neg hz57] at h; cases h
          rw [if_pos hz57] at h
          subst hz57
          refine ay_w_call (pc := 50) (w := some (.int y52)) fe_104_50 (ay_args [.ref 0, .int x6] [] rfl rfl (Nat.le_of_ble_eq_true rfl) (Nat.le_of_ble_eq_true rfl)) (ay_rcvV at_0 rfl) (ev_90 hk54) ?_
          by_cases hc55 : 0 ≤ y52
          · rw [if_pos hc55] at h
            refine ay_w_pos (pc := 53) hc55 fe_104_53 rfl ?_
            refine ay_w_loc (pc := 58) (L' := [some (.ref 0), some (.int x1), some (.int x2), some (.ref am_scr), some (.int x4), some (.int x5), some (.int (x6 + 1))]) fe_104_58 rfl ?_
            refine ay_w_br (pc := 61) (pc' := 41) fe_104_61 rfl ?_
            exact ay_w_less (ay_ls (ay_ls (ay_ls (ay_ls (ay_ls (ay_ls (ay_ls ay_l0))))))) ((ih).2 _ _ _ _ _ _ _ _ h)
          · rw [if_neg hc55] at h
            refine ay_w_neg (pc := 53) hc55 fe_104_53 rfl ?_
            refine ay_w_stk (pc := 56) (S' := [.int 0]) fe_104_56 rfl ?_
            cases h
            exact ay_w_iret fe_104_57 rfl rfl
def fn_104 (a1 a2 : Int32) (D : am_DD) : Option (Int32 × am_DD) := (match fn_14 1 D with | none => none | some (y1, k4, D2) => (if k4 = 0 then fn_104_m am_F 0 a1 a2 y1 0 0 D2 else none))
set_option maxHeartbeats 4000000 in
theorem ev_104 {a1 a2 : Int32} {D : am_DD} {y : Int32} {Z : am_DD} (h : fn_104 a1 a2 D = some (y, Z)) : ay_tw 104 5 [some (.ref 0), some (.int a1), some (.int a2), some (.ref am_scr), none, none, none] [] D (.inl (some (.int y))) Z := by
  unfold fn_104 at h
  refine ay_w_loc (pc := 5) fe_104_5 rfl ?_
  refine ay_w_stk (pc := 6) (S' := [.int 1, .ref 0]) fe_104_6 rfl ?_
  cases hk3 : fn_14 1 D with
  | none => rw [hk3] at h; cases h
  | some z =>
    obtain ⟨y1, k4, D2⟩ := z
    rw [hk3] at h
    dsimp only at h
    by_cases hz5 : k4 = 0
    case neg => rw [if_neg hz5] at h; cases h
    rw [if_pos hz5] at h
    subst hz5
    refine ay_w_call (pc := 7) (w := some (.int y1)) fe_104_7 (ay_args [.ref 0, .int 1] [] rfl rfl (Nat.le_of_ble_eq_true rfl) (Nat.le_of_ble_eq_true rfl)) (ay_rcvV at_0 rfl) (ev_14 hk3) ?_
    refine ay_w_loc (pc := 10) (L' := [some (.ref 0), some (.int a1), some (.int a2), some (.ref am_scr), some (.int y1), none, none]) fe_104_10 rfl ?_
    refine ay_w_stk (pc := 12) (S' := [.int 0]) fe_104_12 rfl ?_
    refine ay_w_loc (pc := 13) (L' := [some (.ref 0), some (.int a1), some (.int a2), some (.ref am_scr), some (.int y1), some (.int 0), none]) fe_104_13 rfl ?_
    exact ay_w_less (ay_ls (ay_ls (ay_ls (ay_ls (ay_ls (ay_ls (ay_ls ay_l0))))))) ((ev_104_m _).1 _ _ _ _ _ _ _ _ h)
