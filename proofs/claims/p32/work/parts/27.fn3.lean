/-! methods as functions, with what am_run does (written by wip/p32/gen6.py) -/
def fn_48_196 : Nat → Int32 → Int32 → Int32 → Int32 → Int32 → am_DD → Option (Int32 × am_DD)
  | 0, _, _, _, _, _, _ => none
  | n + 1, x1, x2, x3, x5, x6, D => (if x5 ≤ x6 then (if ¬ x1 = 40 then some (0, D) else (match fn_14 7 D with | none => none | some (y106, k267, D107) => (if k267 = 0 then (if ¬ x2 = y106 then some (0, D107) else (match fn_14 1 D107 with | none => none | some (y110, k265, D111) => (if k265 = 0 then (if (2 * y110) < x3 then some (0, D111) else (match fn_45 D111 with | none => none | some (y114, D115) => (if y114 = 0 then some (0, D115) else (match fn_14 9 D115 with | none => none | some (y118, k263, D119) => (if k263 = 0 then (if 60 ≤ y118 then (if ¬ x5 = 60 then some (0, D119) else (match fn_39 x5 0 D119 with | none => none | some (y123, k188, D124) => (if k188 = 0 then (if ¬ y123 = (-1) then some (0, D124) else (match fn_47 0 D124 with | none => none | some (y127, D128) => (match fn_47 1 D128 with | none => none | some (y130, D131) => (if y130 < y127 then some (0, D131) else (match fn_47 0 D131 with | none => none | some (y134, D135) => (if y134 ≤ 0 then (match fn_14 1 D135 with | none => none | some (y138, k161, D139) => (if k161 = 0 then (if y138 ≤ 0 then (match fn_29 3 D139 with | none => none | some (y142, k159, D143) => (if k159 = 0 then (if x5 < y142 then some (0, D143) else (match fn_29 5 D143 with | none => none | some (y146, k157, D147) => (if k157 = 0 then (match fn_29 6 D147 with | none => none | some (y149, k155, D150) => (if k155 = 0 then (if ¬ x5 = 0 then (if (x5 - 1) < (y146 + y149) then some (0, D150) else some (1, D150)) else (if 0 < (y146 + y149) then some (0, D150) else some (1, D150))) else none)) else none))) else none)) else some (0, D139)) else none)) else (match fn_14 1 D135 with | none => none | some (y163, k186, D164) => (if k186 = 0 then (if y163 ≤ 0 then some (0, D164) else (match fn_29 3 D164 with | none => none | some (y167, k184, D168) => (if k184 = 0 then (if x5 < y167 then some (0, D168) else (match fn_29 5 D168 with | none => none | some (y171, k182, D172) => (if k182 = 0 then (match fn_29 6 D172 with | none => none | some (y174, k180, D175) => (if k180 = 0 then (if ¬ x5 = 0 then (if (x5 - 1) < (y171 + y174) then some (0, D175) else some (1, D175)) else (if 0 < (y171 + y174) then some (0, D175) else some (1, D175))) else none)) else none))) else none))) else none)))))))) else none))) else (match fn_14 9 D119 with | none => none | some (y190, k261, D191) => (if k261 = 0 then (if ¬ x5 = y190 then some (0, D191) else (match fn_39 x5 0 D191 with | none => none | some (y194, k259, D195) => (if k259 = 0 then (if ¬ y194 = (-1) then some (0, D195) else (match fn_47 0 D195 with | none => none | some (y198, D199) => (match fn_47 1 D199 with | none => none | some (y201, D202) => (if y201 < y198 then some (0, D202) else (match fn_47 0 D202 with | none => none | some (y205, D206) => (if y205 ≤ 0 then (match fn_14 1 D206 with | none => none | some (y209, k232, D210) => (if k232 = 0 then (if y209 ≤ 0 then (match fn_29 3 D210 with | none => none | some (y213, k230, D214) => (if k230 = 0 then (if x5 < y213 then some (0, D214) else (match fn_29 5 D214 with | none => none | some (y217, k228, D218) => (if k228 = 0 then (match fn_29 6 D218 with | none => none | some (y220, k226, D221) => (if k226 = 0 then (if ¬ x5 = 0 then (if (x5 - 1) < (y217 + y220) then some (0, D221) else some (1, D221)) else (if 0 < (y217 + y220) then some (0, D221) else some (1, D221))) else none)) else none))) else none)) else some (0, D210)) else none)) else (match fn_14 1 D206 with | none => none | some (y234, k257, D235) => (if k257 = 0 then (if y234 ≤ 0 then some (0, D235) else (match fn_29 3 D235 with | none => none | some (y238, k255, D239) => (if k255 = 0 then (if x5 < y238 then some (0, D239) else (match fn_29 5 D239 with | none => none | some (y242, k253, D243) => (if k253 = 0 then (match fn_29 6 D243 with | none => none | some (y245, k251, D246) => (if k251 = 0 then (if ¬ x5 = 0 then (if (x5 - 1) < (y242 + y245) then some (0, D246) else some (1, D246)) else (if 0 < (y242 + y245) then some (0, D246) else some (1, D246))) else none)) else none))) else none))) else none)))))))) else none))) else none))) else none))))) else none))) else none))) else (match fn_39 x6 0 D with | none => none | some (y269, k295, D270) => (if k295 = 0 then (match fn_41 y269 D270 with | none => none | some (y272, k293, D273) => (if k293 = 0 then (match fn_39 x6 2 D273 with | none => none | some (y275, k291, D276) => (if k291 = 0 then (if ((y272 >>> (y275 &&& 31)) &&& 1) = 0 then some (0, D276) else (if x6 ≤ 0 then fn_48_196 n x1 x2 x3 x5 (x6 + 1) D276 else (match fn_39 x6 0 D276 with | none => none | some (y280, k289, D281) => (if k289 = 0 then (match fn_39 (x6 - 1) 0 D281 with | none => none | some (y283, k287, D284) => (if k287 = 0 then (if y280 ≤ y283 then fn_48_196 n x1 x2 x3 x5 (x6 + 1) D284 else some (0, D284)) else none)) else none)))) else none)) else none)) else none)))
set_option maxHeartbeats 2000000 in
theorem ev_48_196 : ∀ (n : Nat) (x1 x2 x3 x5 x6 : Int32) (D : am_DD) (y : Int32) (Z : am_DD), fn_48_196 n x1 x2 x3 x5 x6 D = some (y, Z) → ay_to 48 196 [some (.ref 0), some (.int x1), some (.int x2), some (.int x3), none, some (.int x5), some (.int x6)] [] D (.inl (some (.int y))) Z := by
  intro n
  induction n with
  | zero => intro x1 x2 x3 x5 x6 D y Z h; cases h
  | succ n ih =>
    intro x1 x2 x3 x5 x6 D y Z h
    rw [fn_48_196] at h
    refine ay_t_loc (pc := 196) fe_48_196 rfl ?_
    refine ay_t_loc (pc := 198) fe_48_198 rfl ?_
    by_cases hc104 : x5 ≤ x6
    · rw [if_pos hc104] at h
      refine ay_t_pos (pc := 200) hc104 fe_48_200 rfl ?_
      refine ay_t_loc (pc := 259) fe_48_259 rfl ?_
      refine ay_t_stk (pc := 260) (S' := [.int 40, .int x1]) fe_48_260 rfl ?_
      by_cases hc105 : ¬ x1 = 40
      · rw [if_pos hc105] at h
        refine ay_t_pos (pc := 262) hc105 fe_48_262 rfl ?_
        refine ay_t_stk (pc := 415) (S' := [.int 0]) fe_48_415 rfl ?_
        cases h
        exact ay_t_iret fe_48_416 rfl rfl
      · rw [if_neg hc105] at h
        refine ay_t_neg (pc := 262) hc105 fe_48_262 rfl ?_
        refine ay_t_loc (pc := 265) fe_48_265 rfl ?_
        refine ay_t_loc (pc := 266) fe_48_266 rfl ?_
        refine ay_t_stk (pc := 267) (S' := [.int 7, .ref 0, .int x2]) fe_48_267 rfl ?_
        cases hk108 : fn_14 7 D with
        | none => rw [hk108] at h; cases h
        | some z =>
          obtain ⟨y106, k267, D107⟩ := z
          rw [hk108] at h
          dsimp only at h
          by_cases hz268 : k267 = 0
          case neg => rw [if_neg hz268] at h; cases h
          rw [if_pos hz268] at h
          subst hz268
          refine ay_t_call (pc := 269) (w := some (.int y106)) fe_48_269 (ay_args [.ref 0, .int 7] [.int x2] rfl rfl (Nat.le_of_ble_eq_true rfl) (Nat.le_of_ble_eq_true rfl)) (ay_rcvV at_0 rfl) (ev_14 hk108) ?_
          by_cases hc109 : ¬ x2 = y106
          · rw [if_pos hc109] at h
            refine ay_t_pos (pc := 272) hc109 fe_48_272 rfl ?_
            refine ay_t_stk (pc := 415) (S' := [.int 0]) fe_48_415 rfl ?_
            cases h
            exact ay_t_iret fe_48_416 rfl rfl
          · rw [if_neg hc109] at h
            refine ay_t_neg (pc := 272) hc109 fe_48_272 rfl ?_
            refine ay_t_loc (pc := 275) fe_48_275 rfl ?_
            refine ay_t_stk (pc := 276) (S' := [.int 2, .int x3]) fe_48_276 rfl ?_
            refine ay_t_loc (pc := 277) fe_48_277 rfl ?_
            refine ay_t_stk (pc := 278) (S' := [.int 1, .ref 0, .int 2, .int x3]) fe_48_278 rfl ?_
            cases hk112 : fn_14 1 D107 with
            | none => rw [hk112] at h; cases h
            | some z =>
              obtain ⟨y110, k265, D111⟩ := z
              rw [hk112] at h
              dsimp only at h
              by_cases hz266 : k265 = 0
              case neg => rw [if_neg hz266] at h; cases h
              rw [if_pos hz266] at h
              subst hz266
              refine ay_t_call (pc := 279) (w := some (.int y110)) fe_48_279 (ay_args [.ref 0, .int 1] [.int 2, .int x3] rfl rfl (Nat.le_of_ble_eq_true rfl) (Nat.le_of_ble_eq_true rfl)) (ay_rcvV at_0 rfl) (ev_14 hk112) ?_
              refine ay_t_stk (pc := 282) (S' := [.int (2 * y110), .int x3]) fe_48_282 rfl ?_
              by_cases hc113 : (2 * y110) < x3
              · rw [if_pos hc113] at h
                refine ay_t_pos (pc := 283) hc113 fe_48_283 rfl ?_
                refine ay_t_stk (pc := 415) (S' := [.int 0]) fe_48_415 rfl ?_
                cases h
                exact ay_t_iret fe_48_416 rfl rfl
              · rw [if_neg hc113] at h
                refine ay_t_neg (pc := 283) hc113 fe_48_283 rfl ?_
                refine ay_t_loc (pc := 286) fe_48_286 rfl ?_
                cases hk116 : fn_45 D111 with
                | none => rw [hk116] at h; cases h
                | some z =>
                  obtain ⟨y114, D115⟩ := z
                  rw [hk116] at h
                  dsimp only at h
                  refine ay_t_call (pc := 287) (w := some (.int y114)) fe_48_287 (ay_args [.ref 0] [] rfl rfl (Nat.le_of_ble_eq_true rfl) (Nat.le_of_ble_eq_true rfl)) rfl (ev_45 hk116) ?_
                  by_cases hc117 : y114 = 0
                  · rw [if_pos hc117] at h
                    refine ay_t_pos (pc := 290) hc117 fe_48_290 rfl ?_
                    refine ay_t_stk (pc := 415) (S' := [.int 0]) fe_48_415 rfl ?_
                    cases h
                    exact ay_t_iret fe_48_416 rfl rfl
                  · rw [if_neg hc117] at h
                    refine ay_t_neg (pc := 290) hc117 fe_48_290 rfl ?_
                    refine ay_t_loc (pc := 293) fe_48_293 rfl ?_
                    refine ay_t_loc (pc := 295) fe_48_295 rfl ?_
                    refine ay_t_stk (pc := 296) (S' := [.int 9, .ref 0, .int x5]) fe_48_296 rfl ?_
                    cases hk120 : fn_14 9 D115 with
                    | none => rw [hk120] at h; cases h
                    | some z =>
                      obtain ⟨y118, k263, D119⟩ := z
                      rw [hk120] at h
                      dsimp only at h
                      by_cases hz264 : k263 = 0
                      case neg => rw [if_neg hz264] at h; cases h
                      rw [if_pos hz264] at h
                      subst hz264
                      refine ay_t_call (pc := 298) (w := some (.int y118)) fe_48_298 (ay_args [.ref 0, .int 9] [.int x5] rfl rfl (Nat.le_of_ble_eq_true rfl) (Nat.le_of_ble_eq_true rfl)) (ay_rcvV at_0 rfl) (ev_14 hk120) ?_
                      refine ay_t_stk (pc := 301) (S' := [.int 60, .int y118, .int x5]) fe_48_301 rfl ?_
                      by_cases hc121 : 60 ≤ y118
                      · rw [if_pos hc121] at h
                        refine ay_t_pos (pc := 303) hc121 fe_48_303 rfl ?_
                        refine ay_t_stk (pc := 315) (S' := [.int 60, .int x5]) fe_48_315 rfl ?_
                        by_cases hc122 : ¬ x5 = 60
                        · rw [if_pos hc122] at h
                          refine ay_t_pos (pc := 317) hc122 fe_48_317 rfl ?_
                          refine ay_t_stk (pc := 415) (S' := [.int 0]) fe_48_415 rfl ?_
                          cases h
                          exact ay_t_iret fe_48_416 rfl rfl
                        · rw [if_neg hc122] at h
                          refine ay_t_neg (pc := 317) hc122 fe_48_317 rfl ?_
                          refine ay_t_loc (pc := 320) fe_48_320 rfl ?_
                          refine ay_t_loc (pc := 321) fe_48_321 rfl ?_
                          refine ay_t_stk (pc := 323) (S' := [.int 0, .int x5, .ref 0]) fe_48_323 rfl ?_
                          cases hk125 : fn_39 x5 0 D119 with
                          | none => rw [hk125] at h; cases h
                          | some z =>
                            obtain ⟨y123, k188, D124⟩ := z
                            rw [hk125] at h
                            dsimp only at h
                            by_cases hz189 : k188 = 0
                            case neg => rw [if_neg hz189] at h; cases h
                            rw [if_pos hz189] at h
                            subst hz189
                            refine ay_t_call (pc := 324) (w := some (.int y123)) fe_48_324 (ay_args [.ref 0, .int x5, .int 0] [] rfl rfl (Nat.le_of_ble_eq_true rfl) (Nat.le_of_ble_eq_true rfl)) (ay_rcvV at_0 rfl) (ev_39 hk125) ?_
                            refine ay_t_stk (pc := 327) (S' := [.int (-1), .int y123]) fe_48_327 rfl ?_
                            by_cases hc126 : ¬ y123 = (-1)
                            · rw [if_pos hc126] at h
                              refine ay_t_pos (pc := 328) hc126 fe_48_328 rfl ?_
                              refine ay_t_stk (pc := 415) (S' := [.int 0]) fe_48_415 rfl ?_
                              cases h
                              exact ay_t_iret fe_48_416 rfl rfl
                            · rw [if_neg hc126] at h
                              refine ay_t_neg (pc := 328) hc126 fe_48_328 rfl ?_
                              refine ay_t_loc (pc := 331) fe_48_331 rfl ?_
                              refine ay_t_stk (pc := 332) (S' := [.int 0, .ref 0]) fe_48_332 rfl ?_
                              cases hk129 : fn_47 0 D124 with
                              | none => rw [hk129] at h; cases h
                              | some z =>
                                obtain ⟨y127, D128⟩ := z
                                rw [hk129] at h
                                dsimp only at h
                                refine ay_t_call (pc := 333) (w := some (.int y127)) fe_48_333 (ay_args [.ref 0, .int 0] [] rfl rfl (Nat.le_of_ble_eq_true rfl) (Nat.le_of_ble_eq_true rfl)) (ay_rcvV at_0 rfl) (ev_47 hk129) ?_
                                refine ay_t_loc (pc := 336) fe_48_336 rfl ?_
                                refine ay_t_stk (pc := 337) (S' := [.int 1, .ref 0, .int y127]) fe_48_337 rfl ?_
                                cases hk132 : fn_47 1 D128 with
                                | none => rw [hk132] at h; cases h
                                | some z =>
                                  obtain ⟨y130, D131⟩ := z
                                  rw [hk132] at h
                                  dsimp only at h
                                  refine ay_t_call (pc := 338) (w := some (.int y130)) fe_48_338 (ay_args [.ref 0, .int 1] [.int y127] rfl rfl (Nat.le_of_ble_eq_true rfl) (Nat.le_of_ble_eq_true rfl)) (ay_rcvV at_0 rfl) (ev_47 hk132) ?_
                                  by_cases hc133 : y130 < y127
                                  · rw [if_pos hc133] at h
                                    refine ay_t_pos (pc := 341) hc133 fe_48_341 rfl ?_
                                    refine ay_t_stk (pc := 415) (S' := [.int 0]) fe_48_415 rfl ?_
                                    cases h
                                    exact ay_t_iret fe_48_416 rfl rfl
                                  · rw [if_neg hc133] at h
                                    refine ay_t_neg (pc := 341) hc133 fe_48_341 rfl ?_
                                    refine ay_t_loc (pc := 344) fe_48_344 rfl ?_
                                    refine ay_t_stk (pc := 345) (S' := [.int 0, .ref 0]) fe_48_345 rfl ?_
                                    cases hk136 : fn_47 0 D131 with
                                    | none => rw [hk136] at h; cases h
                                    | some z =>
                                      obtain ⟨y134, D135⟩ := z
                                      rw [hk136] at h
                                      dsimp only at h
                                      refine ay_t_call (pc := 346) (w := some (.int y134)) fe_48_346 (ay_args [.ref 0, .int 0] [] rfl rfl (Nat.le_of_ble_eq_true rfl) (Nat.le_of_ble_eq_true rfl)) (ay_rcvV at_0 rfl) (ev_47 hk136) ?_
                                      by_cases hc137 : y134 ≤ 0
                                      · rw [if_pos hc137] at h
                                        refine ay_t_pos (pc := 349) hc137 fe_48_349 rfl ?_
                                        refine ay_t_stk (pc := 356) (S' := [.int 0]) fe_48_356 rfl ?_
                                        refine ay_t_loc (pc := 357) fe_48_357 rfl ?_
                                        refine ay_t_stk (pc := 358) (S' := [.int 1, .ref 0, .int 0]) fe_48_358 rfl ?_
                                        cases hk140 : fn_14 1 D135 with
                                        | none => rw [hk140] at h; cases h
                                        | some z =>
                                          obtain ⟨y138, k161, D139⟩ := z
                                          rw [hk140] at h
                                          dsimp only at h
                                          by_cases hz162 : k161 = 0
                                          case neg => rw [if_neg hz162] at h; cases h
                                          rw [if_pos hz162] at h
                                          subst hz162
                                          refine ay_t_call (pc := 359) (w := some (.int y138)) fe_48_359 (ay_args [.ref 0, .int 1] [.int 0] rfl rfl (Nat.le_of_ble_eq_true rfl) (Nat.le_of_ble_eq_true rfl)) (ay_rcvV at_0 rfl) (ev_14 hk140) ?_
                                          by_cases hc141 : y138 ≤ 0
                                          · rw [if_pos hc141] at h
                                            refine ay_t_pos (pc := 362) hc141 fe_48_362 rfl ?_
                                            refine ay_t_stk (pc := 369) (S' := [.int 0, .int 0]) fe_48_369 rfl ?_
                                            refine ay_t_br (pc := 370) (pc' := 373) fe_48_370 rfl ?_
                                            refine ay_t_loc (pc := 373) fe_48_373 rfl ?_
                                            refine ay_t_stk (pc := 374) (S' := [.int 3, .ref 0]) fe_48_374 rfl ?_
                                            cases hk144 : fn_29 3 D139 with
                                            | none => rw [hk144] at h; cases h
                                            | some z =>
                                              obtain ⟨y142, k159, D143⟩ := z
                                              rw [hk144] at h
                                              dsimp only at h
                                              by_cases hz160 : k159 = 0
                                              case neg => rw [if_neg hz160] at h; cases h
                                              rw [if_pos hz160] at h
                                              subst hz160
                                              refine ay_t_call (pc := 375) (w := some (.int y142)) fe_48_375 (ay_args [.ref 0, .int 3] [] rfl rfl (Nat.le_of_ble_eq_true rfl) (Nat.le_of_ble_eq_true rfl)) (ay_rcvV at_0 rfl) (ev_29 hk144) ?_
                                              refine ay_t_loc (pc := 378) fe_48_378 rfl ?_
                                              by_cases hc145 : x5 < y142
                                              · rw [if_pos hc145] at h
                                                refine ay_t_pos (pc := 380) hc145 fe_48_380 rfl ?_
                                                refine ay_t_stk (pc := 415) (S' := [.int 0]) fe_48_415 rfl ?_
                                                cases h
                                                exact ay_t_iret fe_48_416 rfl rfl
                                              · rw [if_neg hc145] at h
                                                refine ay_t_neg (pc := 380) hc145 fe_48_380 rfl ?_
                                                refine ay_t_loc (pc := 383) fe_48_383 rfl ?_
                                                refine ay_t_stk (pc := 384) (S' := [.int 5, .ref 0]) fe_48_384 rfl ?_
                                                cases hk148 : fn_29 5 D143 with
                                                | none => rw [hk148] at h; cases h
                                                | some z =>
                                                  obtain ⟨y146, k157, D147⟩ := z
                                                  rw [hk148] at h
                                                  dsimp only at h
                                                  by_cases hz158 : k157 = 0
                                                  case neg => rw [if_neg hz158] at h; cases h
                                                  rw [if_pos hz158] at h
                                                  subst hz158
                                                  refine ay_t_call (pc := 385) (w := some (.int y146)) fe_48_385 (ay_args [.ref 0, .int 5] [] rfl rfl (Nat.le_of_ble_eq_true rfl) (Nat.le_of_ble_eq_true rfl)) (ay_rcvV at_0 rfl) (ev_29 hk148) ?_
                                                  refine ay_t_loc (pc := 388) fe_48_388 rfl ?_
                                                  refine ay_t_stk (pc := 389) (S' := [.int 6, .ref 0, .int y146]) fe_48_389 rfl ?_
                                                  cases hk151 : fn_29 6 D147 with
                                                  | none => rw [hk151] at h; cases h
                                                  | some z =>
                                                    obtain ⟨y149, k155, D150⟩ := z
                                                    rw [hk151] at h
                                                    dsimp only at h
                                                    by_cases hz156 : k155 = 0
                                                    case neg => rw [if_neg hz156] at h; cases h
                                                    rw [if_pos hz156] at h
                                                    subst hz156
                                                    refine ay_t_call (pc := 391) (w := some (.int y149)) fe_48_391 (ay_args [.ref 0, .int 6] [.int y146] rfl rfl (Nat.le_of_ble_eq_true rfl) (Nat.le_of_ble_eq_true rfl)) (ay_rcvV at_0 rfl) (ev_29 hk151) ?_
                                                    refine ay_t_stk (pc := 394) (S' := [.int (y146 + y149)]) fe_48_394 rfl ?_
                                                    refine ay_t_loc (pc := 395) fe_48_395 rfl ?_
                                                    by_cases hc152 : ¬ x5 = 0
                                                    · rw [if_pos hc152] at h
                                                      refine ay_t_pos (pc := 397) hc152 fe_48_397 rfl ?_
                                                      refine ay_t_loc (pc := 404) fe_48_404 rfl ?_
                                                      refine ay_t_stk (pc := 406) (S' := [.int 1, .int x5, .int (y146 + y149)]) fe_48_406 rfl ?_
                                                      refine ay_t_stk (pc := 407) (S' := [.int (x5 - 1), .int (y146 + y149)]) fe_48_407 rfl ?_
                                                      by_cases hc153 : (x5 - 1) < (y146 + y149)
                                                      · rw [if_pos hc153] at h
                                                        refine ay_t_pos (pc := 408) hc153 fe_48_408 rfl ?_
                                                        refine ay_t_stk (pc := 415) (S' := [.int 0]) fe_48_415 rfl ?_
                                                        cases h
                                                        exact ay_t_iret fe_48_416 rfl rfl
                                                      · rw [if_neg hc153] at h
                                                        refine ay_t_neg (pc := 408) hc153 fe_48_408 rfl ?_
                                                        refine ay_t_stk (pc := 411) (S' := [.int 1]) fe_48_411 rfl ?_
                                                        refine ay_t_br (pc := 412) (pc' := 416) fe_48_412 rfl ?_
                                                        cases h
                                                        exact ay_t_iret fe_48_416 rfl rfl
                                                    · rw [if_neg hc152] at h
                                                      refine ay_t_neg (pc := 397) hc152 fe_48_397 rfl ?_
                                                      refine ay_t_stk (pc := 400) (S' := [.int 0, .int (y146 + y149)]) fe_48_400 rfl ?_
                                                      refine ay_t_br (pc := 401) (pc' := 408) fe_48_401 rfl ?_
                                                      by_cases hc154 : 0 < (y146 + y149)
                                                      · rw [if_pos hc154] at h
                                                        refine ay_t_pos (pc := 408) hc154 fe_48_408 rfl ?_
                                                        refine ay_t_stk (pc := 415) (S' := [.int 0]) fe_48_415 rfl ?_
                                                        cases h
                                                        exact ay_t_iret fe_48_416 rfl rfl
                                                      · rw [if_neg hc154] at h
                                                        refine ay_t_neg (pc := 408) hc154 fe_48_408 rfl ?_
                                                        refine ay_t_stk (pc := 411) (S' := [.int 1]) fe_48_411 rfl ?_
                                                        refine ay_t_br (pc := 412) (pc' := 416) fe_48_412 rfl ?_
                                                        cases h
                                                        exact ay_t_iret fe_48_416 rfl rfl
                                          · rw [if_neg hc141] at h
                                            refine ay_t_neg (pc := 362) hc141 fe_48_362 rfl ?_
                                            refine ay_t_stk (pc := 365) (S' := [.int 1, .int 0]) fe_48_365 rfl ?_
                                            refine ay_t_br (pc := 366) (pc' := 370) fe_48_366 rfl ?_
                                            refine ay_t_br (pc := 370) (pc' := 415) fe_48_370 rfl ?_
                                            refine ay_t_stk (pc := 415) (S' := [.int 0]) fe_48_415 rfl ?_
                                            cases h
                                            exact ay_t_iret fe_48_416 rfl rfl
                                      · rw [if_neg hc137] at h
                                        refine ay_t_neg (pc := 349) hc137 fe_48_349 rfl ?_
                                        refine ay_t_stk (pc := 352) (S' := [.int 1]) fe_48_352 rfl ?_
                                        refine ay_t_br (pc := 353) (pc' := 357) fe_48_353 rfl ?_
                                        refine ay_t_loc (pc := 357) fe_48_357 rfl ?_
                                        refine ay_t_stk (pc := 358) (S' := [.int 1, .ref 0, .int 1]) fe_48_358 rfl ?_
                                        cases hk165 : fn_14 1 D135 with
                                        | none => rw [hk165] at h; cases h
                                        | some z =>
                                          obtain ⟨y163, k186, D164⟩ := z
                                          rw [hk165] at h
                                          dsimp only at h
                                          by_cases hz187 : k186 = 0
                                          case neg => rw [if_neg hz187] at h; cases h
                                          rw [if_pos hz187] at h
                                          subst hz187
                                          refine ay_t_call (pc := 359) (w := some (.int y163)) fe_48_359 (ay_args [.ref 0, .int 1] [.int 1] rfl rfl (Nat.le_of_ble_eq_true rfl) (Nat.le_of_ble_eq_true rfl)) (ay_rcvV at_0 rfl) (ev_14 hk165) ?_
                                          by_cases hc166 : y163 ≤ 0
                                          · rw [if_pos hc166] at h
                                            refine ay_t_pos (pc := 362) hc166 fe_48_362 rfl ?_
                                            refine ay_t_stk (pc := 369) (S' := [.int 0, .int 1]) fe_48_369 rfl ?_
                                            refine ay_t_br (pc := 370) (pc' := 415) fe_48_370 rfl ?_
                                            refine ay_t_stk (pc := 415) (S' := [.int 0]) fe_48_415 rfl ?_
                                            cases h
                                            exact ay_t_iret fe_48_416 rfl rfl
                                          · rw [if_neg hc166] at h
                                            refine ay_t_neg (pc := 362) hc166 fe_48_362 rfl ?_
                                            refine ay_t_stk (pc := 365) (S' := [.int 1, .int 1]) fe_48_365 rfl ?_
                                            refine ay_t_br (pc := 366) (pc' := 370) fe_48_366 rfl ?_
                                            refine ay_t_br (pc := 370) (pc' := 373) fe_48_370 rfl ?_
                                            refine ay_t_loc (pc := 373) fe_48_373 rfl ?_
                                            refine ay_t_stk (pc := 374) (S' := [.int 3, .ref 0]) fe_48_374 rfl ?_
                                            cases hk169 : fn_29 3 D164 with
                                            | none => rw [hk169] at h; cases h
                                            | some z =>
                                              obtain ⟨y167, k184, D168⟩ := z
                                              rw [hk169] at h
                                              dsimp only at h
                                              by_cases hz185 : k184 = 0
                                              case neg => rw [if_neg hz185] at h; cases h
                                              rw [if_pos hz185] at h
                                              subst hz185
                                              refine ay_t_call (pc := 375) (w := some (.int y167)) fe_48_375 (ay_args [.ref 0, .int 3] [] rfl rfl (Nat.le_of_ble_eq_true rfl) (Nat.le_of_ble_eq_true rfl)) (ay_rcvV at_0 rfl) (ev_29 hk169) ?_
                                              refine ay_t_loc (pc := 378) fe_48_378 rfl ?_
                                              by_cases hc170 : x5 < y167
                                              · rw [if_pos hc170] at h
                                                refine ay_t_pos (pc := 380) hc170 fe_48_380 rfl ?_
                                                refine ay_t_stk (pc := 415) (S' := [.int 0]) fe_48_415 rfl ?_
                                                cases h
                                                exact ay_t_iret fe_48_416 rfl rfl
                                              · rw [if_neg hc170] at h
                                                refine ay_t_neg (pc := 380) hc170 fe_48_380 rfl ?_
                                                refine ay_t_loc (pc := 383) fe_48_383 rfl ?_
                                                refine ay_t_stk (pc := 384) (S' := [.int 5, .ref 0]) fe_48_384 rfl ?_
                                                cases hk173 : fn_29 5 D168 with
                                                | none => rw [hk173] at h; cases h
                                                | some z =>
                                                  obtain ⟨y171, k182, D172⟩ := z
                                                  rw [hk173] at h
                                                  dsimp only at h
                                                  by_cases hz183 : k182 = 0
                                                  case neg => rw [if_neg hz183] at h; cases h
                                                  rw [if_pos hz183] at h
                                                  subst hz183
                                                  refine ay_t_call (pc := 385) (w := some (.int y171)) fe_48_385 (ay_args [.ref 0, .int 5] [] rfl rfl (Nat.le_of_ble_eq_true rfl) (Nat.le_of_ble_eq_true rfl)) (ay_rcvV at_0 rfl) (ev_29 hk173) ?_
                                                  refine ay_t_loc (pc := 388) fe_48_388 rfl ?_
                                                  refine ay_t_stk (pc := 389) (S' := [.int 6, .ref 0, .int y171]) fe_48_389 rfl ?_
                                                  cases hk176 : fn_29 6 D172 with
                                                  | none => rw [hk176] at h; cases h
                                                  | some z =>
                                                    obtain ⟨y174, k180, D175⟩ := z
                                                    rw [hk176] at h
                                                    dsimp only at h
                                                    by_cases hz181 : k180 = 0
                                                    case neg => rw [if_neg hz181] at h; cases h
                                                    rw [if_pos hz181] at h
                                                    subst hz181
                                                    refine ay_t_call (pc := 391) (w := some (.int y174)) fe_48_391 (ay_args [.ref 0, .int 6] [.int y171] rfl rfl (Nat.le_of_ble_eq_true rfl) (Nat.le_of_ble_eq_true rfl)) (ay_rcvV at_0 rfl) (ev_29 hk176) ?_
                                                    refine ay_t_stk (pc := 394) (S' := [.int (y171 + y174)]) fe_48_394 rfl ?_
                                                    refine ay_t_loc (pc := 395) fe_48_395 rfl ?_
                                                    by_cases hc177 : ¬ x5 = 0
                                                    · rw [if_pos hc177] at h
                                                      refine ay_t_pos (pc := 397) hc177 fe_48_397 rfl ?_
                                                      refine ay_t_loc (pc := 404) fe_48_404 rfl ?_
                                                      refine ay_t_stk (pc := 406) (S' := [.int 1, .int x5, .int (y171 + y174)]) fe_48_406 rfl ?_
                                                      refine ay_t_stk (pc := 407) (S' := [.int (x5 - 1), .int (y171 + y174)]) fe_48_407 rfl ?_
                                                      by_cases hc178 : (x5 - 1) < (y171 + y174)
                                                      · rw [if_pos hc178] at h
                                                        refine ay_t_pos (pc := 408) hc178 fe_48_408 rfl ?_
                                                        refine ay_t_stk (pc := 415) (S' := [.int 0]) fe_48_415 rfl ?_
                                                        cases h
                                                        exact ay_t_iret fe_48_416 rfl rfl
                                                      · rw [if_neg hc178] at h
                                                        refine ay_t_neg (pc := 408) hc178 fe_48_408 rfl ?_
                                                        refine ay_t_stk (pc := 411) (S' := [.int 1]) fe_48_411 rfl ?_
                                                        refine ay_t_br (pc := 412) (pc' := 416) fe_48_412 rfl ?_
                                                        cases h
                                                        exact ay_t_iret fe_48_416 rfl rfl
                                                    · rw [if_neg hc177] at h
                                                      refine ay_t_neg (pc := 397) hc177 fe_48_397 rfl ?_
                                                      refine ay_t_stk (pc := 400) (S' := [.int 0, .int (y171 + y174)]) fe_48_400 rfl ?_
                                                      refine ay_t_br (pc := 401) (pc' := 408) fe_48_401 rfl ?_
                                                      by_cases hc179 : 0 < (y171 + y174)
                                                      · rw [if_pos hc179] at h
                                                        refine ay_t_pos (pc := 408) hc179 fe_48_408 rfl ?_
                                                        refine ay_t_stk (pc := 415) (S' := [.int 0]) fe_48_415 rfl ?_
                                                        cases h
                                                        exact ay_t_iret fe_48_416 rfl rfl
                                                      · rw [if_neg hc179] at h
                                                        refine ay_t_neg (pc := 408) hc179 fe_48_408 rfl ?_
                                                        refine ay_t_stk (pc := 411) (S' := [.int 1]) fe_48_411 rfl ?_
                                                        refine ay_t_br (pc := 412) (pc' := 416) fe_48_412 rfl ?_
                                                        cases h
                                                        exact ay_t_iret fe_48_416 rfl rfl
                      · rw [if_neg hc121] at h
                        refine ay_t_neg (pc := 303) hc121 fe_48_303 rfl ?_
                        refine ay_t_loc (pc := 306) fe_48_306 rfl ?_
                        refine ay_t_stk (pc := 307) (S' := [.int 9, .ref 0, .int x5]) fe_48_307 rfl ?_
                        cases hk192 : fn_14 9 D119 with
                        | none => rw [hk192] at h; cases h
                        | some z =>
                          obtain ⟨y190, k261, D191⟩ := z
                          rw [hk192] at h
                          dsimp only at h
                          by_cases hz262 : k261 = 0
                          case neg => rw [if_neg hz262] at h; cases h
                          rw [if_pos hz262] at h
                          subst hz262
                          refine ay_t_call (pc := 309) (w := some (.int y190)) fe_48_309 (ay_args [.ref 0, .int 9] [.int x5] rfl rfl (Nat.le_of_ble_eq_true rfl) (Nat.le_of_ble_eq_true rfl)) (ay_rcvV at_0 rfl) (ev_14 hk192) ?_
                          refine ay_t_br (pc := 312) (pc' := 317) fe_48_312 rfl ?_
                          by_cases hc193 : ¬ x5 = y190
                          · rw [if_pos hc193] at h
                            refine ay_t_pos (pc := 317) hc193 fe_48_317 rfl ?_
                            refine ay_t_stk (pc := 415) (S' := [.int 0]) fe_48_415 rfl ?_
                            cases h
                            exact ay_t_iret fe_48_416 rfl rfl
                          · rw [if_neg hc193] at h
                            refine ay_t_neg (pc := 317) hc193 fe_48_317 rfl ?_
                            refine ay_t_loc (pc := 320) fe_48_320 rfl ?_
                            refine ay_t_loc (pc := 321) fe_48_321 rfl ?_
                            refine ay_t_stk (pc := 323) (S' := [.int 0, .int x5, .ref 0]) fe_48_323 rfl ?_
                            cases hk196 : fn_39 x5 0 D191 with
                            | none => rw [hk196] at h; cases h
                            | some z =>
                              obtain ⟨y194, k259, D195⟩ := z
                              rw [hk196] at h
                              dsimp only at h
                              by_cases hz260 : k259 = 0
                              case neg => rw [if_neg hz260] at h; cases h
                              rw [if_pos hz260] at h
                              subst hz260
                              refine ay_t_call (pc := 324) (w := some (.int y194)) fe_48_324 (ay_args [.ref 0, .int x5, .int 0] [] rfl rfl (Nat.le_of_ble_eq_true rfl) (Nat.le_of_ble_eq_true rfl)) (ay_rcvV at_0 rfl) (ev_39 hk196) ?_
                              refine ay_t_stk (pc := 327) (S' := [.int (-1), .int y194]) fe_48_327 rfl ?_
                              by_cases hc197 : ¬ y194 = (-1)
                              · rw [if_pos hc197] at h
                                refine ay_t_pos (pc := 328) hc197 fe_48_328 rfl ?_
                                refine ay_t_stk (pc := 415) (S' := [.int 0]) fe_48_415 rfl ?_
                                cases h
                                exact ay_t_iret fe_48_416 rfl rfl
                              · rw [if_neg hc197] at h
                                refine ay_t_neg (pc := 328) hc197 fe_48_328 rfl ?_
                                refine ay_t_loc (pc := 331) fe_48_331 rfl ?_
                                refine ay_t_stk (pc := 332) (S' := [.int 0, .ref 0]) fe_48_332 rfl ?_
                                cases hk200 : fn_47 0 D195 with
                                | none => rw [hk200] at h; cases h
                                | some z =>
                                  obtain ⟨y198, D199⟩ := z
                                  rw [hk200] at h
                                  dsimp only at h
                                  refine ay_t_call (pc := 333) (w := some (.int y198)) fe_48_333 (ay_args [.ref 0, .int 0] [] rfl rfl (Nat.le_of_ble_eq_true rfl) (Nat.le_of_ble_eq_true rfl)) (ay_rcvV at_0 rfl) (ev_47 hk200) ?_
                                  refine ay_t_loc (pc := 336) fe_48_336 rfl ?_
                                  refine ay_t_stk (pc := 337) (S' := [.int 1, .ref 0, .int y198]) fe_48_337 rfl ?_
                                  cases hk203 : fn_47 1 D199 with
                                  | none => rw [hk203] at h; cases h
                                  | some z =>
                                    obtain ⟨y201, D202⟩ := z
                                    rw [hk203] at h
                                    dsimp only at h
                                    refine ay_t_call (pc := 338) (w := some (.int y201)) fe_48_338 (ay_args [.ref 0, .int 1] [.int y198] rfl rfl (Nat.le_of_ble_eq_true rfl) (Nat.le_of_ble_eq_true rfl)) (ay_rcvV at_0 rfl) (ev_47 hk203) ?_
                                    by_cases hc204 : y201 < y198
                                    · rw [if_pos hc204] at h
                                      refine ay_t_pos (pc := 341) hc204 fe_48_341 rfl ?_
                                      refine ay_t_stk (pc := 415) (S' := [.int 0]) fe_48_415 rfl ?_
                                      cases h
                                      exact ay_t_iret fe_48_416 rfl rfl
                                    · rw [if_neg hc204] at h
                                      refine ay_t_neg (pc := 341) hc204 fe_48_341 rfl ?_
                                      refine ay_t_loc (pc := 344) fe_48_344 rfl ?_
                                      refine ay_t_stk (pc := 345) (S' := [.int 0, .ref 0]) fe_48_345 rfl ?_
                                      cases hk207 : fn_47 0 D202 with
                                      | none => rw [hk207] at h; cases h
                                      | some z =>
                                        obtain ⟨y205, D206⟩ := z
                                        rw [hk207] at h
                                        dsimp only at h
                                        refine ay_t_call (pc := 346) (w := some (.int y205)) fe_48_346 (ay_args [.ref 0, .int 0] [] rfl rfl (Nat.le_of_ble_eq_true rfl) (Nat.le_of_ble_eq_true rfl)) (ay_rcvV at_0 rfl) (ev_47 hk207) ?_
                                        by_cases hc208 : y205 ≤ 0
                                        · rw [if_pos hc208] at h
                                          refine ay_t_pos (pc := 349) hc208 fe_48_349 rfl ?_
                                          refine ay_t_stk (pc := 356) (S' := [.int 0]) fe_48_356 rfl ?_
                                          refine ay_t_loc (pc := 357) fe_48_357 rfl ?_
                                          refine ay_t_stk (pc := 358) (S' := [.int 1, .ref 0, .int 0]) fe_48_358 rfl ?_
                                          cases hk211 : fn_14 1 D206 with
                                          | none => rw [hk211] at h; cases h
                                          | some z =>
                                            obtain ⟨y209, k232, D210⟩ := z
                                            rw [hk211] at h
                                            dsimp only at h
                                            by_cases hz233 : k232 = 0
                                            case neg => rw [if_neg hz233] at h; cases h
                                            rw [if_pos hz233] at h
                                            subst hz233
                                            refine ay_t_call (pc := 359) (w := some (.int y209)) fe_48_359 (ay_args [.ref 0, .int 1] [.int 0] rfl rfl (Nat.le_of_ble_eq_true rfl) (Nat.le_of_ble_eq_true rfl)) (ay_rcvV at_0 rfl) (ev_14 hk211) ?_
                                            by_cases hc212 : y209 ≤ 0
                                            · rw [if_pos hc212] at h
                                              refine ay_t_pos (pc := 362) hc212 fe_48_362 rfl ?_
                                              refine ay_t_stk (pc := 369) (S' := [.int 0, .int 0]) fe_48_369 rfl ?_
                                              refine ay_t_br (pc := 370) (pc' := 373) fe_48_370 rfl ?_
                                              refine ay_t_loc (pc := 373) fe_48_373 rfl ?_
                                              refine ay_t_stk (pc := 374) (S' := [.int 3, .ref 0]) fe_48_374 rfl ?_
                                              cases hk215 : fn_29 3 D210 with
                                              | none => rw [hk215] at h; cases h
                                              | some z =>
                                                obtain ⟨y213, k230, D214⟩ := z
                                                rw [hk215] at h
                                                dsimp only at h
                                                by_cases hz231 : k230 = 0
                                                case neg => rw [if_neg hz231] at h; cases h
                                                rw [if_pos hz231] at h
                                                subst hz231
                                                refine ay_t_call (pc := 375) (w := some (.int y213)) fe_48_375 (ay_args [.ref 0, .int 3] [] rfl rfl (Nat.le_of_ble_eq_true rfl) (Nat.le_of_ble_eq_true rfl)) (ay_rcvV at_0 rfl) (ev_29 hk215) ?_
                                                refine ay_t_loc (pc := 378) fe_48_378 rfl ?_
                                                by_cases hc216 : x5 < y213
                                                · rw [if_pos hc216] at h
                                                  refine ay_t_pos (pc := 380) hc216 fe_48_380 rfl ?_
                                                  refine ay_t_stk (pc := 415) (S' := [.int 0]) fe_48_415 rfl ?_
                                                  cases h
                                                  exact ay_t_iret fe_48_416 rfl rfl
                                                · rw [if_neg hc216] at h
                                                  refine ay_t_neg (pc := 380) hc216 fe_48_380 rfl ?_
                                                  refine ay_t_loc (pc := 383) fe_48_383 rfl ?_
                                                  refine ay_t_stk (pc := 384) (S' := [.int 5, .ref 0]) fe_48_384 rfl ?_
                                                  cases hk219 : fn_29 5 D214 with
                                                  | none => rw [hk219] at h; cases h
                                                  | some z =>
                                                    obtain ⟨y217, k228, D218⟩ := z
                                                    rw [hk219] at h
                                                    dsimp only at h
                                                    by_cases hz229 : k228 = 0
                                                    case neg => rw [if_neg hz229] at h; cases h
                                                    rw [if_pos hz229] at h
                                                    subst hz229
                                                    refine ay_t_call (pc := 385) (w := some (.int y217)) fe_48_385 (ay_args [.ref 0, .int 5] [] rfl rfl (Nat.le_of_ble_eq_true rfl) (Nat.le_of_ble_eq_true rfl)) (ay_rcvV at_0 rfl) (ev_29 hk219) ?_
                                                    refine ay_t_loc (pc := 388) fe_48_388 rfl ?_
                                                    refine ay_t_stk (pc := 389) (S' := [.int 6, .ref 0, .int y217]) fe_48_389 rfl ?_
                                                    cases hk222 : fn_29 6 D218 with
                                                    | none => rw [hk222] at h; cases h
                                                    | some z =>
                                                      obtain ⟨y220, k226, D221⟩ := z
                                                      rw [hk222] at h
                                                      dsimp only at h
                                                      by_cases hz227 : k226 = 0
                                                      case neg => rw [if_neg hz227] at h; cases h
                                                      rw [if_pos hz227] at h
                                                      subst hz227
                                                      refine ay_t_call (pc := 391) (w := some (.int y220)) fe_48_391 (ay_args [.ref 0, .int 6] [.int y217] rfl rfl (Nat.le_of_ble_eq_true rfl) (Nat.le_of_ble_eq_true rfl)) (ay_rcvV at_0 rfl) (ev_29 hk222) ?_
                                                      refine ay_t_stk (pc := 394) (S' := [.int (y217 + y220)]) fe_48_394 rfl ?_
                                                      refine ay_t_loc (pc := 395) fe_48_395 rfl ?_
                                                      by_cases hc223 : ¬ x5 = 0
                                                      · rw [if_pos hc223] at h
                                                        refine ay_t_pos (pc := 397) hc223 fe_48_397 rfl ?_
                                                        refine ay_t_loc (pc := 404) fe_48_404 rfl ?_
                                                        refine ay_t_stk (pc := 406) (S' := [.int 1, .int x5, .int (y217 + y220)]) fe_48_406 rfl ?_
                                                        refine ay_t_stk (pc := 407) (S' := [.int (x5 - 1), .int (y217 + y220)]) fe_48_407 rfl ?_
                                                        by_cases hc224 : (x5 - 1) < (y217 + y220)
                                                        · rw [if_pos hc224] at h
                                                          refine ay_t_pos (pc := 408) hc224 fe_48_408 rfl ?_
                                                          refine ay_t_stk (pc := 415) (S' := [.int 0]) fe_48_415 rfl ?_
                                                          cases h
                                                          exact ay_t_iret fe_48_416 rfl rfl
                                                        · rw [if_neg hc224] at h
                                                          refine ay_t_neg (pc := 408) hc224 fe_48_408 rfl ?_
                                                          refine ay_t_stk (pc := 411) (S' := [.int 1]) fe_48_411 rfl ?_
                                                          refine ay_t_br (pc := 412) (pc' := 416) fe_48_412 rfl ?_
                                                          cases h
                                                          exact ay_t_iret fe_48_416 rfl rfl
                                                      · rw [if_neg hc223] at h
                                                        refine ay_t_neg (pc := 397) hc223 fe_48_397 rfl ?_
                                                        refine ay_t_stk (pc := 400) (S' := [.int 0, .int (y217 + y220)]) fe_48_400 rfl ?_
                                                        refine ay_t_br (pc := 401) (pc' := 408) fe_48_401 rfl ?_
                                                        by_cases hc225 : 0 < (y217 + y220)
                                                        · rw [if_pos hc225] at h
                                                          refine ay_t_pos (pc := 408) hc225 fe_48_408 rfl ?_
                                                          refine ay_t_stk (pc := 415) (S' := [.int 0]) fe_48_415 rfl ?_
                                                          cases h
                                                          exact ay_t_iret fe_48_416 rfl rfl
                                                        · rw [if_neg hc225] at h
                                                          refine ay_t_neg (pc := 408) hc225 fe_48_408 rfl ?_
                                                          refine ay_t_stk (pc := 411) (S' := [.int 1]) fe_48_411 rfl ?_
                                                          refine ay_t_br (pc := 412) (pc' := 416) fe_48_412 rfl ?_
                                                          cases h
                                                          exact ay_t_iret fe_48_416 rfl rfl
                                            · rw [if_neg hc212] at h
                                              refine ay_t_neg (pc := 362) hc212 fe_48_362 rfl ?_
                                              refine ay_t_stk (pc := 365) (S' := [.int 1, .int 0]) fe_48_365 rfl ?_
                                              refine ay_t_br (pc := 366) (pc' := 370) fe_48_366 rfl ?_
                                              refine ay_t_br (pc := 370) (pc' := 415) fe_48_370 rfl ?_
                                              refine ay_t_stk (pc := 415) (S' := [.int 0]) fe_48_415 rfl ?_
                                              cases h
                                              exact ay_t_iret fe_48_416 rfl rfl
                                        · rw [if_neg hc208] at h
                                          refine ay_t_neg (pc := 349) hc208 fe_48_349 rfl ?_
                                          refine ay_t_stk (pc := 352) (S' := [.int 1]) fe_48_352 rfl ?_
                                          refine ay_t_br (pc := 353) (pc' := 357) fe_48_353 rfl ?_
                                          refine ay_t_loc (pc := 357) fe_48_357 rfl ?_
                                          refine ay_t_stk (pc := 358) (S' := [.int 1, .ref 0, .int 1]) fe_48_358 rfl ?_
                                          cases hk236 : fn_14 1 D206 with
                                          | none => rw [hk236] at h; cases h
                                          | some z =>
                                            obtain ⟨y234, k257, D235⟩ := z
                                            rw [hk236] at h
                                            dsimp only at h
                                            by_cases hz258 : k257 = 0
                                            case neg => rw [if_neg hz258] at h; cases h
                                            rw [if_pos hz258] at h
                                            subst hz258
                                            refine ay_t_call (pc := 359) (w := some (.int y234)) fe_48_359 (ay_args [.ref 0, .int 1] [.int 1] rfl rfl (Nat.le_of_ble_eq_true rfl) (Nat.le_of_ble_eq_true rfl)) (ay_rcvV at_0 rfl) (ev_14 hk236) ?_
                                            by_cases hc237 : y234 ≤ 0
                                            · rw [if_pos hc237] at h
                                              refine ay_t_pos (pc := 362) hc237 fe_48_362 rfl ?_
                                              refine ay_t_stk (pc := 369) (S' := [.int 0, .int 1]) fe_48_369 rfl ?_
                                              refine ay_t_br (pc := 370) (pc' := 415) fe_48_370 rfl ?_
                                              refine ay_t_stk (pc := 415) (S' := [.int 0]) fe_48_415 rfl ?_
                                              cases h
                                              exact ay_t_iret fe_48_416 rfl rfl
                                            · rw [if_neg hc237] at h
                                              refine ay_t_neg (pc := 362) hc237 fe_48_362 rfl ?_
                                              refine ay_t_stk (pc := 365) (S' := [.int 1, .int 1]) fe_48_365 rfl ?_
                                              refine ay_t_br (pc := 366) (pc' := 370) fe_48_366 rfl ?_
                                              refine ay_t_br (pc := 370) (pc' := 373) fe_48_370 rfl ?_
                                              refine ay_t_loc (pc := 373) fe_48_373 rfl ?_
                                              refine ay_t_stk (pc := 374) (S' := [.int 3, .ref 0]) fe_48_374 rfl ?_
                                              cases hk240 : fn_29 3 D235 with
                                              | none => rw [hk240] at h; cases h
                                              | some z =>
                                                obtain ⟨y238, k255, D239⟩ := z
                                                rw [hk240] at h
                                                dsimp only at h
                                                by_cases hz256 : k255 = 0
                                                case neg => rw [if_neg hz256] at h; cases h
                                                rw [if_pos hz256] at h
                                                subst hz256
                                                refine ay_t_call (pc := 375) (w := some (.int y238)) fe_48_375 (ay_args [.ref 0, .int 3] [] rfl rfl (Nat.le_of_ble_eq_true rfl) (Nat.le_of_ble_eq_true rfl)) (ay_rcvV at_0 rfl) (ev_29 hk240) ?_
                                                refine ay_t_loc (pc := 378) fe_48_378 rfl ?_
                                                by_cases hc241 : x5 < y238
                                                · rw [if_pos hc241] at h
                                                  refine ay_t_pos (pc := 380) hc241 fe_48_380 rfl ?_
                                                  refine ay_t_stk (pc := 415) (S' := [.int 0]) fe_48_415 rfl ?_
                                                  cases h
                                                  exact ay_t_iret fe_48_416 rfl rfl
                                                · rw [if_neg hc241] at h
                                                  refine ay_t_neg (pc := 380) hc241 fe_48_380 rfl ?_
                                                  refine ay_t_loc (pc := 383) fe_48_383 rfl ?_
                                                  refine ay_t_stk (pc := 384) (S' := [.int 5, .ref 0]) fe_48_384 rfl ?_
                                                  cases hk244 : fn_29 5 D239 with
                                                  | none => rw [hk244] at h; cases h
                                                  | some z =>
                                                    obtain ⟨y242, k253, D243⟩ := z
                                                    rw [hk244] at h
                                                    dsimp only at h
                                                    by_cases hz254 : k253 = 0
                                                    case neg => rw [if_neg hz254] at h; cases h
                                                    rw [if_pos hz254] at h
                                                    subst hz254
                                                    refine ay_t_call (pc := 385) (w := some (.int y242)) fe_48_385 (ay_args [.ref 0, .int 5] [] rfl rfl (Nat.le_of_ble_eq_true rfl) (Nat.le_of_ble_eq_true rfl)) (ay_rcvV at_0 rfl) (ev_29 hk244) ?_
                                                    refine ay_t_loc (pc := 388) fe_48_388 rfl ?_
                                                    refine ay_t_stk (pc := 389) (S' := [.int 6, .ref 0, .int y242]) fe_48_389 rfl ?_
                                                    cases hk247 : fn_29 6 D243 with
                                                    | none => rw [hk247] at h; cases h
                                                    | some z =>
                                                      obtain ⟨y245, k251, D246⟩ := z
                                                      rw [hk247] at h
                                                      dsimp only at h
                                                      by_cases hz252 : k251 = 0
                                                      case neg => rw [if_neg hz252] at h; cases h
                                                      rw [if_pos hz252] at h
                                                      subst hz252
                                                      refine ay_t_call (pc := 391) (w := some (.int y245)) fe_48_391 (ay_args [.ref 0, .int 6] [.int y242] rfl rfl (Nat.le_of_ble_eq_true rfl) (Nat.le_of_ble_eq_true rfl)) (ay_rcvV at_0 rfl) (ev_29 hk247) ?_
                                                      refine ay_t_stk (pc := 394) (S' := [.int (y242 + y245)]) fe_48_394 rfl ?_
                                                      refine ay_t_loc (pc := 395) fe_48_395 rfl ?_
                                                      by_cases hc248 : ¬ x5 = 0
                                                      · rw [if_pos hc248] at h
                                                        refine ay_t_pos (pc := 397) hc248 fe_48_397 rfl ?_
                                                        refine ay_t_loc (pc := 404) fe_48_404 rfl ?_
                                                        refine ay_t_stk (pc := 406) (S' := [.int 1, .int x5, .int (y242 + y245)]) fe_48_406 rfl ?_
                                                        refine ay_t_stk (pc := 407) (S' := [.int (x5 - 1), .int (y242 + y245)]) fe_48_407 rfl ?_
                                                        by_cases hc249 : (x5 - 1) < (y242 + y245)
                                                        · rw [if_pos hc249] at h
                                                          refine ay_t_pos (pc := 408) hc249 fe_48_408 rfl ?_
                                                          refine ay_t_stk (pc := 415) (S' := [.int 0]) fe_48_415 rfl ?_
                                                          cases h
                                                          exact ay_t_iret fe_48_416 rfl rfl
                                                        · rw [if_neg hc249] at h
                                                          refine ay_t_neg (pc := 408) hc249 fe_48_408 rfl ?_
                                                          refine ay_t_stk (pc := 411) (S' := [.int 1]) fe_48_411 rfl ?_
                                                          refine ay_t_br (pc := 412) (pc' := 416) fe_48_412 rfl ?_
                                                          cases h
                                                          exact ay_t_iret fe_48_416 rfl rfl
                                                      · rw [if_neg hc248] at h
                                                        refine ay_t_neg (pc := 397) hc248 fe_48_397 rfl ?_
                                                        refine ay_t_stk (pc := 400) (S' := [.int 0, .int (y242 + y245)]) fe_48_400 rfl ?_
                                                        refine ay_t_br (pc := 401) (pc' := 408) fe_48_401 rfl ?_
                                                        by_cases hc250 : 0 < (y242 + y245)
                                                        · rw [if_pos hc250] at h
                                                          refine ay_t_pos (pc := 408) hc250 fe_48_408 rfl ?_
                                                          refine ay_t_stk (pc := 415) (S' := [.int 0]) fe_48_415 rfl ?_
                                                          cases h
                                                          exact ay_t_iret fe_48_416 rfl rfl
                                                        · rw [if_neg hc250] at h
                                                          refine ay_t_neg (pc := 408) hc250 fe_48_408 rfl ?_
                                                          refine ay_t_stk (pc := 411) (S' := [.int 1]) fe_48_411 rfl ?_
                                                          refine ay_t_br (pc := 412) (pc' := 416) fe_48_412 rfl ?_
                                                          cases h
                                                          exact ay_t_iret fe_48_416 rfl rfl
    · rw [if_neg hc104] at h
      refine ay_t_neg (pc := 200) hc104 fe_48_200 rfl ?_
      refine ay_t_loc (pc := 203) fe_48_203 rfl ?_
      refine ay_t_loc (pc := 204) fe_48_204 rfl ?_
      refine ay_t_loc (pc := 205) fe_48_205 rfl ?_
      refine ay_t_stk (pc := 207) (S' := [.int 0, .int x6, .ref 0, .ref 0]) fe_48_207 rfl ?_
      cases hk271 : fn_39 x6 0 D with
      | none => rw [hk271] at h; cases h
      | some z =>
        obtain ⟨y269, k295, D270⟩ := z
        rw [hk271] at h
        dsimp only at h
        by_cases hz296 : k295 = 0
        case neg => rw [if_neg hz296] at h; cases h
        rw [if_pos hz296] at h
        subst hz296
        refine ay_t_call (pc := 208) (w := some (.int y269)) fe_48_208 (ay_args [.ref 0, .int x6, .int 0] [.ref 0] rfl rfl (Nat.le_of_ble_eq_true rfl) (Nat.le_of_ble_eq_true rfl)) (ay_rcvV at_0 rfl) (ev_39 hk271) ?_
        cases hk274 : fn_41 y269 D270 with
        | none => rw [hk274] at h; cases h
        | some z =>
          obtain ⟨y272, k293, D273⟩ := z
          rw [hk274] at h
          dsimp only at h
          by_cases hz294 : k293 = 0
          case neg => rw [if_neg hz294] at h; cases h
          rw [if_pos hz294] at h
          subst hz294
          refine ay_t_call (pc := 211) (w := some (.int y272)) fe_48_211 (ay_args [.ref 0, .int y269] [] rfl rfl (Nat.le_of_ble_eq_true rfl) (Nat.le_of_ble_eq_true rfl)) (ay_rcvV at_0 rfl) (ev_41 hk274) ?_
          refine ay_t_loc (pc := 214) fe_48_214 rfl ?_
          refine ay_t_loc (pc := 215) fe_48_215 rfl ?_
          refine ay_t_stk (pc := 217) (S' := [.int 2, .int x6, .ref 0, .int y272]) fe_48_217 rfl ?_
          cases hk277 : fn_39 x6 2 D273 with
          | none => rw [hk277] at h; cases h
          | some z =>
            obtain ⟨y275, k291, D276⟩ := z
            rw [hk277] at h
            dsimp only at h
            by_cases hz292 : k291 = 0
            case neg => rw [if_neg hz292] at h; cases h
            rw [if_pos hz292] at h
            subst hz292
            refine ay_t_call (pc := 218) (w := some (.int y275)) fe_48_218 (ay_args [.ref 0, .int x6, .int 2] [.int y272] rfl rfl (Nat.le_of_ble_eq_true rfl) (Nat.le_of_ble_eq_true rfl)) (ay_rcvV at_0 rfl) (ev_39 hk277) ?_
            refine ay_t_stk (pc := 221) (S' := [.int (y272 >>> (y275 &&& 31))]) fe_48_221 rfl ?_
            refine ay_t_stk (pc := 222) (S' := [.int 1, .int (y272 >>> (y275 &&& 31))]) fe_48_222 rfl ?_
            refine ay_t_stk (pc := 223) (S' := [.int ((y272 >>> (y275 &&& 31)) &&& 1)]) fe_48_223 rfl ?_
            by_cases hc278 : ((y272 >>> (y275 &&& 31)) &&& 1) = 0
            · rw [if_pos hc278] at h
              refine ay_t_pos (pc := 224) hc278 fe_48_224 rfl ?_
              refine ay_t_stk (pc := 251) (S' := [.int 0]) fe_48_251 rfl ?_
              cases h
              exact ay_t_iret fe_48_252 rfl rfl
            · rw [if_neg hc278] at h
              refine ay_t_neg (pc := 224) hc278 fe_48_224 rfl ?_
              refine ay_t_loc (pc := 227) fe_48_227 rfl ?_
              by_cases hc279 : x6 ≤ 0
              · rw [if_pos hc279] at h
                refine ay_t_pos (pc := 229) hc279 fe_48_229 rfl ?_
                refine ay_t_loc (pc := 253) (L' := [some (.ref 0), some (.int x1), some (.int x2), some (.int x3), none, some (.int x5), some (.int (x6 + 1))]) fe_48_253 rfl ?_
                refine ay_t_br (pc := 256) (pc' := 196) fe_48_256 rfl ?_
                exact ay_t_less (ay_ls (ay_ls (ay_ls (ay_ls (ay_ls (ay_ls (ay_ls ay_l0))))))) (ih _ _ _ _ _ _ _ _ h)
              · rw [if_neg hc279] at h
                refine ay_t_neg (pc := 229) hc279 fe_48_229 rfl ?_
                refine ay_t_loc (pc := 232) fe_48_232 rfl ?_
                refine ay_t_loc (pc := 233) fe_48_233 rfl ?_
                refine ay_t_stk (pc := 235) (S' := [.int 0, .int x6, .ref 0]) fe_48_235 rfl ?_
                cases hk282 : fn_39 x6 0 D276 with
                | none => rw [hk282] at h; cases h
                | some z =>
                  obtain ⟨y280, k289, D281⟩ := z
                  rw [hk282] at h
                  dsimp only at h
                  by_cases hz290 : k289 = 0
                  case neg => rw [if_neg hz290] at h; cases h
                  rw [if_pos hz290] at h
                  subst hz290
                  refine ay_t_call (pc := 236) (w := some (.int y280)) fe_48_236 (ay_args [.ref 0, .int x6, .int 0] [] rfl rfl (Nat.le_of_ble_eq_true rfl) (Nat.le_of_ble_eq_true rfl)) (ay_rcvV at_0 rfl) (ev_39 hk282) ?_
                  refine ay_t_loc (pc := 239) fe_48_239 rfl ?_
                  refine ay_t_loc (pc := 240) fe_48_240 rfl ?_
                  refine ay_t_stk (pc := 242) (S' := [.int 1, .int x6, .ref 0, .int y280]) fe_48_242 rfl ?_
                  refine ay_t_stk (pc := 243) (S' := [.int (x6 - 1), .ref 0, .int y280]) fe_48_243 rfl ?_
                  refine ay_t_stk (pc := 244) (S' := [.int 0, .int (x6 - 1), .ref 0, .int y280]) fe_48_244 rfl ?_
                  cases hk285 : fn_39 (x6 - 1) 0 D281 with
                  | none => rw [hk285] at h; cases h
                  | some z =>
                    obtain ⟨y283, k287, D284⟩ := z
                    rw [hk285] at h
                    dsimp only at h
                    by_cases hz288 : k287 = 0
                    case neg => rw [if_neg hz288] at h; cases h
                    rw [if_pos hz288] at h
                    subst hz288
                    refine ay_t_call (pc := 245) (w := some (.int y283)) fe_48_245 (ay_args [.ref 0, .int (x6 - 1), .int 0] [.int y280] rfl rfl (Nat.le_of_ble_eq_true rfl) (Nat.le_of_ble_eq_true rfl)) (ay_rcvV at_0 rfl) (ev_39 hk285) ?_
                    by_cases hc286 : y280 ≤ y283
                    · rw [if_pos hc286] at h
                      refine ay_t_pos (pc := 248) hc286 fe_48_248 rfl ?_
                      refine ay_t_loc (pc := 253) (L' := [some (.ref 0), some (.int x1), some (.int x2), some (.int x3), none, some (.int x5), some (.int (x6 + 1))]) fe_48_253 rfl ?_
                      refine ay_t_br (pc := 256) (pc' := 196) fe_48_256 rfl ?_
                      exact ay_t_less (ay_ls (ay_ls (ay_ls (ay_ls (ay_ls (ay_ls (ay_ls ay_l0))))))) (ih _ _ _ _ _ _ _ _ h)
                    · rw [if_neg hc286] at h
                      refine ay_t_neg (pc := 248) hc286 fe_48_248 rfl ?_
                      refine ay_t_stk (pc := 251) (S' := [.int 0]) fe_48_251 rfl ?_
                      cases h
                      exact ay_t_iret fe_48_252 rfl rfl
def fn_48_78 : Nat → Int32 → Int32 → Int32 → Int32 → Int32 → Int32 → am_DD → Option (Int32 × am_DD)
  | 0, _, _, _, _, _, _, _ => none
  | n + 1, x1, x2, x3, x4, x5, x6, D => (match fn_14 3 D with | none => none | some (y37, k102, D38) => (if k102 = 0 then (if y37 ≤ x6 then fn_48_196 am_F x1 x2 x3 x5 0 D38 else (match fn_37 x6 3 D38 with | none => none | some (y41, k100, D42) => (if k100 = 0 then (if y41 < 1 then some (0, D42) else (match fn_37 x6 3 D42 with | none => none | some (y45, k98, D46) => (if k98 = 0 then (match fn_14 1 D46 with | none => none | some (y48, k96, D49) => (if k96 = 0 then (match fn_37 x6 0 D49 with | none => none | some (y51, k94, D52) => (if k94 = 0 then (if (y48 - y51) < y45 then some (0, D52) else (match fn_37 x6 1 D52 with | none => none | some (y55, k92, D56) => (if k92 = 0 then (if y55 ≤ x4 then some (0, D56) else (match fn_37 x6 1 D56 with | none => none | some (y59, k90, D60) => (if k90 = 0 then (match fn_14 0 D60 with | none => none | some (y62, k88, D63) => (if k88 = 0 then (if y62 < y59 then some (0, D63) else (match fn_37 x6 4 D63 with | none => none | some (y66, k86, D67) => (if k86 = 0 then (if y66 < 0 then some (0, D67) else (match fn_37 x6 2 D67 with | none => none | some (y70, k84, D71) => (if k84 = 0 then (match fn_37 x6 0 D71 with | none => none | some (y73, k82, D74) => (if k82 = 0 then (if y70 ≤ y73 then (match fn_37 x6 1 D74 with | none => none | some (y77, k80, D78) => (if k80 = 0 then fn_48_78 n x1 x2 x3 y77 x5 (x6 + 1) D78 else none)) else some (0, D74)) else none)) else none))) else none))) else none)) else none))) else none))) else none)) else none)) else none))) else none))) else none))
set_option maxHeartbeats 2000000 in
theorem ev_48_78 : ∀ (n : Nat) (x1 x2 x3 x4 x5 x6 : Int32) (D : am_DD) (y : Int32) (Z : am_DD), fn_48_78 n x1 x2 x3 x4 x5 x6 D = some (y, Z) → ay_to 48 78 [some (.ref 0), some (.int x1), some (.int x2), some (.int x3), some (.int x4), some (.int x5), some (.int x6)] [] D (.inl (some (.int y))) Z := by
  intro n
  induction n with
  | zero => intro x1 x2 x3 x4 x5 x6 D y Z h; cases h
  | succ n ih =>
    intro x1 x2 x3 x4 x5 x6 D y Z h
    rw [fn_48_78] at h
    refine ay_t_loc (pc := 78) fe_48_78 rfl ?_
    refine ay_t_loc (pc := 80) fe_48_80 rfl ?_
    refine ay_t_stk (pc := 81) (S' := [.int 3, .ref 0, .int x6]) fe_48_81 rfl ?_
    cases hk39 : fn_14 3 D with
    | none => rw [hk39] at h; cases h
    | some z =>
      obtain ⟨y37, k102, D38⟩ := z
      rw [hk39] at h
      dsimp only at h
      by_cases hz103 : k102 = 0
      case neg => rw [if_neg hz103] at h; cases h
      rw [if_pos hz103] at h
      subst hz103
      refine ay_t_call (pc := 82) (w := some (.int y37)) fe_48_82 (ay_args [.ref 0, .int 3] [.int x6] rfl rfl (Nat.le_of_ble_eq_true rfl) (Nat.le_of_ble_eq_true rfl)) (ay_rcvV at_0 rfl) (ev_14 hk39) ?_
      by_cases hc40 : y37 ≤ x6
      · rw [if_pos hc40] at h
        refine ay_t_pos (pc := 85) hc40 fe_48_85 rfl ?_
        refine ay_t_stk (pc := 193) (S' := [.int 0]) fe_48_193 rfl ?_
        refine ay_t_loc (pc := 194) (L' := [some (.ref 0), some (.int x1), some (.int x2), some (.int x3), some (.int x4), some (.int x5), some (.int 0)]) fe_48_194 rfl ?_
        exact ay_t_less (ay_ls (ay_ls (ay_ls (ay_ls (ay_ln (ay_ls (ay_ls ay_l0))))))) (ev_48_196 _ _ _ _ _ _ _ _ _ h)
      · rw [if_neg hc40] at h
        refine ay_t_neg (pc := 85) hc40 fe_48_85 rfl ?_
        refine ay_t_loc (pc := 88) fe_48_88 rfl ?_
        refine ay_t_loc (pc := 89) fe_48_89 rfl ?_
        refine ay_t_stk (pc := 91) (S' := [.int 3, .int x6, .ref 0]) fe_48_91 rfl ?_
        cases hk43 : fn_37 x6 3 D38 with
        | none => rw [hk43] at h; cases h
        | some z =>
          obtain ⟨y41, k100, D42⟩ := z
          rw [hk43] at h
          dsimp only at h
          by_cases hz101 : k100 = 0
          case neg => rw [if_neg hz101] at h; cases h
          rw [if_pos hz101] at h
          subst hz101
          refine ay_t_call (pc := 92) (w := some (.int y41)) fe_48_92 (ay_args [.ref 0, .int x6, .int 3] [] rfl rfl (Nat.le_of_ble_eq_true rfl) (Nat.le_of_ble_eq_true rfl)) (ay_rcvV at_0 rfl) (ev_37 hk43) ?_
          refine ay_t_stk (pc := 95) (S' := [.int 1, .int y41]) fe_48_95 rfl ?_
          by_cases hc44 : y41 < 1
          · rw [if_pos hc44] at h
            refine ay_t_pos (pc := 96) hc44 fe_48_96 rfl ?_
            refine ay_t_stk (pc := 176) (S' := [.int 0]) fe_48_176 rfl ?_
            cases h
            exact ay_t_iret fe_48_177 rfl rfl
          · rw [if_neg hc44] at h
            refine ay_t_neg (pc := 96) hc44 fe_48_96 rfl ?_
            refine ay_t_loc (pc := 99) fe_48_99 rfl ?_
            refine ay_t_loc (pc := 100) fe_48_100 rfl ?_
            refine ay_t_stk (pc := 102) (S' := [.int 3, .int x6, .ref 0]) fe_48_102 rfl ?_
            cases hk47 : fn_37 x6 3 D42 with
            | none => rw [hk47] at h; cases h
            | some z =>
              obtain ⟨y45, k98, D46⟩ := z
              rw [hk47] at h
              dsimp only at h
              by_cases hz99 : k98 = 0
              case neg => rw [if_neg hz99] at h; cases h
              rw [if_pos hz99] at h
              subst hz99
              refine ay_t_call (pc := 103) (w := some (.int y45)) fe_48_103 (ay_args [.ref 0, .int x6, .int 3] [] rfl rfl (Nat.le_of_ble_eq_true rfl) (Nat.le_of_ble_eq_true rfl)) (ay_rcvV at_0 rfl) (ev_37 hk47) ?_
              refine ay_t_loc (pc := 106) fe_48_106 rfl ?_
              refine ay_t_stk (pc := 107) (S' := [.int 1, .ref 0, .int y45]) fe_48_107 rfl ?_
              cases hk50 : fn_14 1 D46 with
              | none => rw [hk50] at h; cases h
              | some z =>
                obtain ⟨y48, k96, D49⟩ := z
                rw [hk50] at h
                dsimp only at h
                by_cases hz97 : k96 = 0
                case neg => rw [if_neg hz97] at h; cases h
                rw [if_pos hz97] at h
                subst hz97
                refine ay_t_call (pc := 108) (w := some (.int y48)) fe_48_108 (ay_args [.ref 0, .int 1] [.int y45] rfl rfl (Nat.le_of_ble_eq_true rfl) (Nat.le_of_ble_eq_true rfl)) (ay_rcvV at_0 rfl) (ev_14 hk50) ?_
                refine ay_t_loc (pc := 111) fe_48_111 rfl ?_
                refine ay_t_loc (pc := 112) fe_48_112 rfl ?_
                refine ay_t_stk (pc := 114) (S' := [.int 0, .int x6, .ref 0, .int y48, .int y45]) fe_48_114 rfl ?_
                cases hk53 : fn_37 x6 0 D49 with
                | none => rw [hk53] at h; cases h
                | some z =>
                  obtain ⟨y51, k94, D52⟩ := z
                  rw [hk53] at h
                  dsimp only at h
                  by_cases hz95 : k94 = 0
                  case neg => rw [if_neg hz95] at h; cases h
                  rw [if_pos hz95] at h
                  subst hz95
                  refine ay_t_call (pc := 115) (w := some (.int y51)) fe_48_115 (ay_args [.ref 0, .int x6, .int 0] [.int y48, .int y45] rfl rfl (Nat.le_of_ble_eq_true rfl) (Nat.le_of_ble_eq_true rfl)) (ay_rcvV at_0 rfl) (ev_37 hk53) ?_
                  refine ay_t_stk (pc := 118) (S' := [.int (y48 - y51), .int y45]) fe_48_118 rfl ?_
                  by_cases hc54 : (y48 - y51) < y45
                  · rw [if_pos hc54] at h
                    refine ay_t_pos (pc := 119) hc54 fe_48_119 rfl ?_
                    refine ay_t_stk (pc := 176) (S' := [.int 0]) fe_48_176 rfl ?_
                    cases h
                    exact ay_t_iret fe_48_177 rfl rfl
                  · rw [if_neg hc54] at h
                    refine ay_t_neg (pc := 119) hc54 fe_48_119 rfl ?_
                    refine ay_t_loc (pc := 122) fe_48_122 rfl ?_
                    refine ay_t_loc (pc := 123) fe_48_123 rfl ?_
                    refine ay_t_stk (pc := 125) (S' := [.int 1, .int x6, .ref 0]) fe_48_125 rfl ?_
                    cases hk57 : fn_37 x6 1 D52 with
                    | none => rw [hk57] at h; cases h
                    | some z =>
                      obtain ⟨y55, k92, D56⟩ := z
                      rw [hk57] at h
                      dsimp only at h
                      by_cases hz93 : k92 = 0
                      case neg => rw [if_neg hz93] at h; cases h
                      rw [if_pos hz93] at h
                      subst hz93
                      refine ay_t_call (pc := 126) (w := some (.int y55)) fe_48_126 (ay_args [.ref 0, .int x6, .int 1] [] rfl rfl (Nat.le_of_ble_eq_true rfl) (Nat.le_of_ble_eq_true rfl)) (ay_rcvV at_0 rfl) (ev_37 hk57) ?_
                      refine ay_t_loc (pc := 129) fe_48_129 rfl ?_
                      by_cases hc58 : y55 ≤ x4
                      · rw [if_pos hc58] at h
                        refine ay_t_pos (pc := 131) hc58 fe_48_131 rfl ?_
                        refine ay_t_stk (pc := 176) (S' := [.int 0]) fe_48_176 rfl ?_
                        cases h
                        exact ay_t_iret fe_48_177 rfl rfl
                      · rw [if_neg hc58] at h
                        refine ay_t_neg (pc := 131) hc58 fe_48_131 rfl ?_
                        refine ay_t_loc (pc := 134) fe_48_134 rfl ?_
                        refine ay_t_loc (pc := 135) fe_48_135 rfl ?_
                        refine ay_t_stk (pc := 137) (S' := [.int 1, .int x6, .ref 0]) fe_48_137 rfl ?_
                        cases hk61 : fn_37 x6 1 D56 with
                        | none => rw [hk61] at h; cases h
                        | some z =>
                          obtain ⟨y59, k90, D60⟩ := z
                          rw [hk61] at h
                          dsimp only at h
                          by_cases hz91 : k90 = 0
                          case neg => rw [if_neg hz91] at h; cases h
                          rw [if_pos hz91] at h
                          subst hz91
                          refine ay_t_call (pc := 138) (w := some (.int y59)) fe_48_138 (ay_args [.ref 0, .int x6, .int 1] [] rfl rfl (Nat.le_of_ble_eq_true rfl) (Nat.le_of_ble_eq_true rfl)) (ay_rcvV at_0 rfl) (ev_37 hk61) ?_
                          refine ay_t_loc (pc := 141) fe_48_141 rfl ?_
                          refine ay_t_stk (pc := 142) (S' := [.int 0, .ref 0, .int y59]) fe_48_142 rfl ?_
                          cases hk64 : fn_14 0 D60 with
                          | none => rw [hk64] at h; cases h
                          | some z =>
                            obtain ⟨y62, k88, D63⟩ := z
                            rw [hk64] at h
                            dsimp only at h
                            by_cases hz89 : k88 = 0
                            case neg => rw [if_neg hz89] at h; cases h
                            rw [if_pos hz89] at h
                            subst hz89
                            refine ay_t_call (pc := 143) (w := some (.int y62)) fe_48_143 (ay_args [.ref 0, .int 0] [.int y59] rfl rfl (Nat.le_of_ble_eq_true rfl) (Nat.le_of_ble_eq_true rfl)) (ay_rcvV at_0 rfl) (ev_14 hk64) ?_
                            by_cases hc65 : y62 < y59
                            · rw [if_pos hc65] at h
                              refine ay_t_pos (pc := 146) hc65 fe_48_146 rfl ?_
                              refine ay_t_stk (pc := 176) (S' := [.int 0]) fe_48_176 rfl ?_
                              cases h
                              exact ay_t_iret fe_48_177 rfl rfl
                            · rw [if_neg hc65] at h
                              refine ay_t_neg (pc := 146) hc65 fe_48_146 rfl ?_
                              refine ay_t_loc (pc := 149) fe_48_149 rfl ?_
                              refine ay_t_loc (pc := 150) fe_48_150 rfl ?_
                              refine ay_t_stk (pc := 152) (S' := [.int 4, .int x6, .ref 0]) fe_48_152 rfl ?_
                              cases hk68 : fn_37 x6 4 D63 with
                              | none => rw [hk68] at h; cases h
                              | some z =>
                                obtain ⟨y66, k86, D67⟩ := z
                                rw [hk68] at h
                                dsimp only at h
                                by_cases hz87 : k86 = 0
                                case neg => rw [if_neg hz87] at h; cases h
                                rw [if_pos hz87] at h
                                subst hz87
                                refine ay_t_call (pc := 153) (w := some (.int y66)) fe_48_153 (ay_args [.ref 0, .int x6, .int 4] [] rfl rfl (Nat.le_of_ble_eq_true rfl) (Nat.le_of_ble_eq_true rfl)) (ay_rcvV at_0 rfl) (ev_37 hk68) ?_
                                by_cases hc69 : y66 < 0
                                · rw [if_pos hc69] at h
                                  refine ay_t_pos (pc := 156) hc69 fe_48_156 rfl ?_
                                  refine ay_t_stk (pc := 176) (S' := [.int 0]) fe_48_176 rfl ?_
                                  cases h
                                  exact ay_t_iret fe_48_177 rfl rfl
                                · rw [if_neg hc69] at h
                                  refine ay_t_neg (pc := 156) hc69 fe_48_156 rfl ?_
                                  refine ay_t_loc (pc := 159) fe_48_159 rfl ?_
                                  refine ay_t_loc (pc := 160) fe_48_160 rfl ?_
                                  refine ay_t_stk (pc := 162) (S' := [.int 2, .int x6, .ref 0]) fe_48_162 rfl ?_
                                  cases hk72 : fn_37 x6 2 D67 with
                                  | none => rw [hk72] at h; cases h
                                  | some z =>
                                    obtain ⟨y70, k84, D71⟩ := z
                                    rw [hk72] at h
                                    dsimp only at h
                                    by_cases hz85 : k84 = 0
                                    case neg => rw [if_neg hz85] at h; cases h
                                    rw [if_pos hz85] at h
                                    subst hz85
                                    refine ay_t_call (pc := 163) (w := some (.int y70)) fe_48_163 (ay_args [.ref 0, .int x6, .int 2] [] rfl rfl (Nat.le_of_ble_eq_true rfl) (Nat.le_of_ble_eq_true rfl)) (ay_rcvV at_0 rfl) (ev_37 hk72) ?_
                                    refine ay_t_loc (pc := 166) fe_48_166 rfl ?_
                                    refine ay_t_loc (pc := 167) fe_48_167 rfl ?_
                                    refine ay_t_stk (pc := 169) (S' := [.int 0, .int x6, .ref 0, .int y70]) fe_48_169 rfl ?_
                                    cases hk75 : fn_37 x6 0 D71 with
                                    | none => rw [hk75] at h; cases h
                                    | some z =>
                                      obtain ⟨y73, k82, D74⟩ := z
                                      rw [hk75] at h
                                      dsimp only at h
                                      by_cases hz83 : k82 = 0
                                      case neg => rw [if_neg hz83] at h; cases h
                                      rw [if_pos hz83] at h
                                      subst hz83
                                      refine ay_t_call (pc := 170) (w := some (.int y73)) fe_48_170 (ay_args [.ref 0, .int x6, .int 0] [.int y70] rfl rfl (Nat.le_of_ble_eq_true rfl) (Nat.le_of_ble_eq_true rfl)) (ay_rcvV at_0 rfl) (ev_37 hk75) ?_
                                      by_cases hc76 : y70 ≤ y73
                                      · rw [if_pos hc76] at h
                                        refine ay_t_pos (pc := 173) hc76 fe_48_173 rfl ?_
                                        refine ay_t_loc (pc := 178) fe_48_178 rfl ?_
                                        refine ay_t_loc (pc := 179) fe_48_179 rfl ?_
                                        refine ay_t_stk (pc := 181) (S' := [.int 1, .int x6, .ref 0]) fe_48_181 rfl ?_
                                        cases hk79 : fn_37 x6 1 D74 with
                                        | none => rw [hk79] at h; cases h
                                        | some z =>
                                          obtain ⟨y77, k80, D78⟩ := z
                                          rw [hk79] at h
                                          dsimp only at h
                                          by_cases hz81 : k80 = 0
                                          case neg => rw [if_neg hz81] at h; cases h
                                          rw [if_pos hz81] at h
                                          subst hz81
                                          refine ay_t_call (pc := 182) (w := some (.int y77)) fe_48_182 (ay_args [.ref 0, .int x6, .int 1] [] rfl rfl (Nat.le_of_ble_eq_true rfl) (Nat.le_of_ble_eq_true rfl)) (ay_rcvV at_0 rfl) (ev_37 hk79) ?_
                                          refine ay_t_loc (pc := 185) (L' := [some (.ref 0), some (.int x1), some (.int x2), some (.int x3), some (.int y77), some (.int x5), some (.int x6)]) fe_48_185 rfl ?_
                                          refine ay_t_loc (pc := 187) (L' := [some (.ref 0), some (.int x1), some (.int x2), some (.int x3), some (.int y77), some (.int x5), some (.int (x6 + 1))]) fe_48_187 rfl ?_
                                          refine ay_t_br (pc := 190) (pc' := 78) fe_48_190 rfl ?_
                                          exact ay_t_less (ay_ls (ay_ls (ay_ls (ay_ls (ay_ls (ay_ls (ay_ls ay_l0))))))) (ih _ _ _ _ _ _ _ _ _ h)
                                      · rw [if_neg hc76] at h
                                        refine ay_t_neg (pc := 173) hc76 fe_48_173 rfl ?_
                                        refine ay_t_stk (pc := 176) (S' := [.int 0]) fe_48_176 rfl ?_
                                        cases h
                                        exact ay_t_iret fe_48_177 rfl rfl
def fn_48_33 : Nat → Int32 → Int32 → Int32 → Int32 → Int32 → Int32 → am_DD → Option (Int32 × am_DD)
  | 0, _, _, _, _, _, _, _ => none
  | n + 1, x1, x2, x3, x4, x5, x6, D => (if 5 ≤ x6 then fn_48_78 am_F x1 x2 x3 x4 x5 0 D else (match fn_33 x6 0 D with | none => none | some (y22, k35, D23) => (if k35 = 0 then (match fn_33 x6 1 D23 with | none => none | some (y25, k33, D26) => (if k33 = 0 then (match fn_33 x6 2 D26 with | none => none | some (y28, k31, D29) => (if k31 = 0 then fn_48_33 n (x1 + y22) (x2 + y25) (x3 + y28) x4 x5 (x6 + 1) D29 else none)) else none)) else none)))
set_option maxHeartbeats 2000000 in
theorem ev_48_33 : ∀ (n : Nat) (x1 x2 x3 x4 x5 x6 : Int32) (D : am_DD) (y : Int32) (Z : am_DD), fn_48_33 n x1 x2 x3 x4 x5 x6 D = some (y, Z) → ay_to 48 33 [some (.ref 0), some (.int x1), some (.int x2), some (.int x3), some (.int x4), some (.int x5), some (.int x6)] [] D (.inl (some (.int y))) Z := by
  intro n
  induction n with
  | zero => intro x1 x2 x3 x4 x5 x6 D y Z h; cases h
  | succ n ih =>
    intro x1 x2 x3 x4 x5 x6 D y Z h
    rw [fn_48_33] at h
    refine ay_t_loc (pc := 33) fe_48_33 rfl ?_
    refine ay_t_stk (pc := 35) (S' := [.int 5, .int x6]) fe_48_35 rfl ?_
    by_cases hc21 : 5 ≤ x6
    · rw [if_pos hc21] at h
      refine ay_t_pos (pc := 36) hc21 fe_48_36 rfl ?_
      refine ay_t_stk (pc := 75) (S' := [.int 0]) fe_48_75 rfl ?_
      refine ay_t_loc (pc := 76) (L' := [some (.ref 0), some (.int x1), some (.int x2), some (.int x3), some (.int x4), some (.int x5), some (.int 0)]) fe_48_76 rfl ?_
      exact ay_t_less (ay_ls (ay_ls (ay_ls (ay_ls (ay_ls (ay_ls (ay_ls ay_l0))))))) (ev_48_78 _ _ _ _ _ _ _ _ _ _ h)
    · rw [if_neg hc21] at h
      refine ay_t_neg (pc := 36) hc21 fe_48_36 rfl ?_
      refine ay_t_loc (pc := 39) fe_48_39 rfl ?_
      refine ay_t_loc (pc := 40) fe_48_40 rfl ?_
      refine ay_t_loc (pc := 41) fe_48_41 rfl ?_
      refine ay_t_stk (pc := 43) (S' := [.int 0, .int x6, .ref 0, .int x1]) fe_48_43 rfl ?_
      cases hk24 : fn_33 x6 0 D with
      | none => rw [hk24] at h; cases h
      | some z =>
        obtain ⟨y22, k35, D23⟩ := z
        rw [hk24] at h
        dsimp only at h
        by_cases hz36 : k35 = 0
        case neg => rw [if_neg hz36] at h; cases h
        rw [if_pos hz36] at h
        subst hz36
        refine ay_t_call (pc := 44) (w := some (.int y22)) fe_48_44 (ay_args [.ref 0, .int x6, .int 0] [.int x1] rfl rfl (Nat.le_of_ble_eq_true rfl) (Nat.le_of_ble_eq_true rfl)) (ay_rcvV at_0 rfl) (ev_33 hk24) ?_
        refine ay_t_stk (pc := 47) (S' := [.int (x1 + y22)]) fe_48_47 rfl ?_
        refine ay_t_loc (pc := 48) (L' := [some (.ref 0), some (.int (x1 + y22)), some (.int x2), some (.int x3), some (.int x4), some (.int x5), some (.int x6)]) fe_48_48 rfl ?_
        refine ay_t_loc (pc := 49) fe_48_49 rfl ?_
        refine ay_t_loc (pc := 50) fe_48_50 rfl ?_
        refine ay_t_loc (pc := 51) fe_48_51 rfl ?_
        refine ay_t_stk (pc := 53) (S' := [.int 1, .int x6, .ref 0, .int x2]) fe_48_53 rfl ?_
        cases hk27 : fn_33 x6 1 D23 with
        | none => rw [hk27] at h; cases h
        | some z =>
          obtain ⟨y25, k33, D26⟩ := z
          rw [hk27] at h
          dsimp only at h
          by_cases hz34 : k33 = 0
          case neg => rw [if_neg hz34] at h; cases h
          rw [if_pos hz34] at h
          subst hz34
          refine ay_t_call (pc := 54) (w := some (.int y25)) fe_48_54 (ay_args [.ref 0, .int x6, .int 1] [.int x2] rfl rfl (Nat.le_of_ble_eq_true rfl) (Nat.le_of_ble_eq_true rfl)) (ay_rcvV at_0 rfl) (ev_33 hk27) ?_
          refine ay_t_stk (pc := 57) (S' := [.int (x2 + y25)]) fe_48_57 rfl ?_
          refine ay_t_loc (pc := 58) (L' := [some (.ref 0), some (.int (x1 + y22)), some (.int (x2 + y25)), some (.int x3), some (.int x4), some (.int x5), some (.int x6)]) fe_48_58 rfl ?_
          refine ay_t_loc (pc := 59) fe_48_59 rfl ?_
          refine ay_t_loc (pc := 60) fe_48_60 rfl ?_
          refine ay_t_loc (pc := 61) fe_48_61 rfl ?_
          refine ay_t_stk (pc := 63) (S' := [.int 2, .int x6, .ref 0, .int x3]) fe_48_63 rfl ?_
          cases hk30 : fn_33 x6 2 D26 with
          | none => rw [hk30] at h; cases h
          | some z =>
            obtain ⟨y28, k31, D29⟩ := z
            rw [hk30] at h
            dsimp only at h
            by_cases hz32 : k31 = 0
            case neg => rw [if_neg hz32] at h; cases h
            rw [if_pos hz32] at h
            subst hz32
            refine ay_t_call (pc := 64) (w := some (.int y28)) fe_48_64 (ay_args [.ref 0, .int x6, .int 2] [.int x3] rfl rfl (Nat.le_of_ble_eq_true rfl) (Nat.le_of_ble_eq_true rfl)) (ay_rcvV at_0 rfl) (ev_33 hk30) ?_
            refine ay_t_stk (pc := 67) (S' := [.int (x3 + y28)]) fe_48_67 rfl ?_
            refine ay_t_loc (pc := 68) (L' := [some (.ref 0), some (.int (x1 + y22)), some (.int (x2 + y25)), some (.int (x3 + y28)), some (.int x4), some (.int x5), some (.int x6)]) fe_48_68 rfl ?_
            refine ay_t_loc (pc := 69) (L' := [some (.ref 0), some (.int (x1 + y22)), some (.int (x2 + y25)), some (.int (x3 + y28)), some (.int x4), some (.int x5), some (.int (x6 + 1))]) fe_48_69 rfl ?_
            refine ay_t_br (pc := 72) (pc' := 33) fe_48_72 rfl ?_
            exact ay_t_less (ay_ls (ay_ls (ay_ls (ay_ls (ay_ls (ay_ls (ay_ls ay_l0))))))) (ih _ _ _ _ _ _ _ _ _ h)
def fn_48 (D : am_DD) : Option (Int32 × am_DD) := (match fn_14 2 D with | none => none | some (y1, k19, D2) => (if k19 = 0 then (match fn_14 3 D2 with | none => none | some (y4, k17, D5) => (if k17 = 0 then (match fn_14 3 D5 with | none => none | some (y7, k15, D8) => (if k15 = 0 then (match fn_29 0 D8 with | none => none | some (y10, k13, D11) => (if k13 = 0 then fn_48_33 am_F (y1 + y4) y7 0 0 y10 0 D11 else none)) else none)) else none)) else none))
set_option maxHeartbeats 2000000 in
theorem ev_48 {D : am_DD} {y : Int32} {Z : am_DD} (h : fn_48  D = some (y, Z)) : ay_mo 48 [.ref 0] D (.inl (some (.int y))) Z := by
  unfold fn_48 at h
  refine ay_m_of (L := [some (.ref 0), none, none, none, none, none, none]) rfl ?_
  refine ay_t_loc (pc := 0) fe_48_0 rfl ?_
  refine ay_t_stk (pc := 1) (S' := [.int 2, .ref 0]) fe_48_1 rfl ?_
  cases hk3 : fn_14 2 D with
  | none => rw [hk3] at h; cases h
  | some z =>
    obtain ⟨y1, k19, D2⟩ := z
    rw [hk3] at h
    dsimp only at h
    by_cases hz20 : k19 = 0
    case neg => rw [if_neg hz20] at h; cases h
    rw [if_pos hz20] at h
    subst hz20
    refine ay_t_call (pc := 2) (w := some (.int y1)) fe_48_2 (ay_args [.ref 0, .int 2] [] rfl rfl (Nat.le_of_ble_eq_true rfl) (Nat.le_of_ble_eq_true rfl)) (ay_rcvV at_0 rfl) (ev_14 hk3) ?_
    refine ay_t_loc (pc := 5) fe_48_5 rfl ?_
    refine ay_t_stk (pc := 6) (S' := [.int 3, .ref 0, .int y1]) fe_48_6 rfl ?_
    cases hk6 : fn_14 3 D2 with
    | none => rw [hk6] at h; cases h
    | some z =>
      obtain ⟨y4, k17, D5⟩ := z
      rw [hk6] at h
      dsimp only at h
      by_cases hz18 : k17 = 0
      case neg => rw [if_neg hz18] at h; cases h
      rw [if_pos hz18] at h
      subst hz18
      refine ay_t_call (pc := 7) (w := some (.int y4)) fe_48_7 (ay_args [.ref 0, .int 3] [.int y1] rfl rfl (Nat.le_of_ble_eq_true rfl) (Nat.le_of_ble_eq_true rfl)) (ay_rcvV at_0 rfl) (ev_14 hk6) ?_
      refine ay_t_stk (pc := 10) (S' := [.int (y1 + y4)]) fe_48_10 rfl ?_
      refine ay_t_loc (pc := 11) (L' := [some (.ref 0), some (.int (y1 + y4)), none, none, none, none, none]) fe_48_11 rfl ?_
      refine ay_t_loc (pc := 12) fe_48_12 rfl ?_
      refine ay_t_stk (pc := 13) (S' := [.int 3, .ref 0]) fe_48_13 rfl ?_
      cases hk9 : fn_14 3 D5 with
      | none => rw [hk9] at h; cases h
      | some z =>
        obtain ⟨y7, k15, D8⟩ := z
        rw [hk9] at h
        dsimp only at h
        by_cases hz16 : k15 = 0
        case neg => rw [if_neg hz16] at h; cases h
        rw [if_pos hz16] at h
        subst hz16
        refine ay_t_call (pc := 14) (w := some (.int y7)) fe_48_14 (ay_args [.ref 0, .int 3] [] rfl rfl (Nat.le_of_ble_eq_true rfl) (Nat.le_of_ble_eq_true rfl)) (ay_rcvV at_0 rfl) (ev_14 hk9) ?_
        refine ay_t_loc (pc := 17) (L' := [some (.ref 0), some (.int (y1 + y4)), some (.int y7), none, none, none, none]) fe_48_17 rfl ?_
        refine ay_t_stk (pc := 18) (S' := [.int 0]) fe_48_18 rfl ?_
        refine ay_t_loc (pc := 19) (L' := [some (.ref 0), some (.int (y1 + y4)), some (.int y7), some (.int 0), none, none, none]) fe_48_19 rfl ?_
        refine ay_t_stk (pc := 20) (S' := [.int 0]) fe_48_20 rfl ?_
        refine ay_t_loc (pc := 21) (L' := [some (.ref 0), some (.int (y1 + y4)), some (.int y7), some (.int 0), some (.int 0), none, none]) fe_48_21 rfl ?_
        refine ay_t_loc (pc := 23) fe_48_23 rfl ?_
        refine ay_t_stk (pc := 24) (S' := [.int 0, .ref 0]) fe_48_24 rfl ?_
        cases hk12 : fn_29 0 D8 with
        | none => rw [hk12] at h; cases h
        | some z =>
          obtain ⟨y10, k13, D11⟩ := z
          rw [hk12] at h
          dsimp only at h
          by_cases hz14 : k13 = 0
          case neg => rw [if_neg hz14] at h; cases h
          rw [if_pos hz14] at h
          subst hz14
          refine ay_t_call (pc := 25) (w := some (.int y10)) fe_48_25 (ay_args [.ref 0, .int 0] [] rfl rfl (Nat.le_of_ble_eq_true rfl) (Nat.le_of_ble_eq_true rfl)) (ay_rcvV at_0 rfl) (ev_29 hk12) ?_
          refine ay_t_loc (pc := 28) (L' := [some (.ref 0), some (.int (y1 + y4)), some (.int y7), some (.int 0), some (.int 0), some (.int y10), none]) fe_48_28 rfl ?_
          refine ay_t_stk (pc := 30) (S' := [.int 0]) fe_48_30 rfl ?_
          refine ay_t_loc (pc := 31) (L' := [some (.ref 0), some (.int (y1 + y4)), some (.int y7), some (.int 0), some (.int 0), some (.int y10), some (.int 0)]) fe_48_31 rfl ?_
          exact ay_t_less (ay_ls (ay_ls (ay_ls (ay_ls (ay_ls (ay_ls (ay_ls ay_l0))))))) (ev_48_33 _ _ _ _ _ _ _ _ _ _ h)
def fn_50 (D : am_DD) : Option (Int32 × am_DD) := some (0, (rw_wipe (rw_copy D 10 35 12) 37 25))
set_option maxHeartbeats 2000000 in
theorem ev_50 {D : am_DD} {y : Int32} {Z : am_DD} (h : fn_50  D = some (y, Z)) : ay_mo 50 [.ref 33] D (.inl none) Z := by
  unfold fn_50 at h
  refine ay_m_of (L := [some (.ref 33)]) rfl ?_
  refine ay_t_loc (pc := 0) fe_50_0 rfl ?_
  refine ay_t_getR (pc := 1) (w := .ref 34) fe_50_1 at_33 (by decide +kernel) rfl ?_
  refine ay_t_loc (pc := 4) fe_50_4 rfl ?_
  refine ay_t_getR (pc := 5) (w := .ref 8) fe_50_5 at_33 (by decide +kernel) rfl ?_
  refine ay_t_getR (pc := 8) (w := .ref 9) fe_50_8 at_8 (by decide +kernel) rfl ?_
  refine ay_t_call (pc := 11) (w := none) fe_50_11 (ay_args [.ref 34, .ref 9] [] rfl rfl (Nat.le_of_ble_eq_true rfl) (Nat.le_of_ble_eq_true rfl)) (ay_rcvV at_34 rfl) (mt_copy at_34 at_35 at_9 at_10 (by decide)) ?_
  refine ay_t_loc (pc := 14) fe_50_14 rfl ?_
  refine ay_t_getR (pc := 15) (w := .ref 36) fe_50_15 at_33 (by decide +kernel) rfl ?_
  refine ay_t_call (pc := 18) (w := none) fe_50_18 (ay_args [.ref 36] [] rfl rfl (Nat.le_of_ble_eq_true rfl) (Nat.le_of_ble_eq_true rfl)) (ay_rcvV at_36 rfl) (mt_wipe at_36 at_37 (by decide)) ?_
  cases h
  exact ay_t_vret fe_50_21 rfl
def fn_51_4 : Nat → Int32 → Int32 → am_DD → Option (Int32 × am_DD)
  | 0, _, _, _ => none
  | n + 1, x1, x2, D => (if 12 ≤ x2 then some ((x1 - 20), (rw_raise D 37 25 x1 1)) else (match fn_34 x1 D with | none => none | some (y2, D3) => (if y2 = 0 then some ((x1 - 20), (rw_raise D3 37 25 x1 1)) else (match fn_31 x1 (rw_at ((rw_raise D3 37 25 x1 1) 35) 12 x1) (rw_put (rw_raise D3 37 25 x1 1) 35 12 x1 (1 - (rw_at ((rw_raise D3 37 25 x1 1) 35) 12 x1))) with | none => none | some (y6, D7) => fn_51_4 n y6 (x2 + 1) D7))))
set_option maxHeartbeats 2000000 in
theorem ev_51_4 : ∀ (n : Nat) (x1 x2 : Int32) (D : am_DD) (y : Int32) (Z : am_DD), fn_51_4 n x1 x2 D = some (y, Z) → ay_to 51 4 [some (.ref 33), some (.int x1), some (.int x2), none] [] D (.inl (some (.int y))) Z := by
  intro n
  induction n with
  | zero => intro x1 x2 D y Z h; cases h
  | succ n ih =>
    intro x1 x2 D y Z h
    rw [fn_51_4] at h
    refine ay_t_loc (pc := 4) fe_51_4 rfl ?_
    refine ay_t_stk (pc := 5) (S' := [.int 12, .int x2]) fe_51_5 rfl ?_
    by_cases hc1 : 12 ≤ x2
    · rw [if_pos hc1] at h
      refine ay_t_pos (pc := 7) hc1 fe_51_7 rfl ?_
      refine ay_t_loc (pc := 66) fe_51_66 rfl ?_
      refine ay_t_getR (pc := 67) (w := .ref 36) fe_51_67 at_33 (by decide +kernel) rfl ?_
      refine ay_t_loc (pc := 70) fe_51_70 rfl ?_
      refine ay_t_stk (pc := 71) (S' := [.int 1, .int x1, .ref 36]) fe_51_71 rfl ?_
      refine ay_t_call (pc := 72) (w := none) fe_51_72 (ay_args [.ref 36, .int x1, .int 1] [] rfl rfl (Nat.le_of_ble_eq_true rfl) (Nat.le_of_ble_eq_true rfl)) (ay_rcvV at_36 rfl) (mt_raise at_36 at_37 (by decide)) ?_
      refine ay_t_loc (pc := 75) fe_51_75 rfl ?_
      refine ay_t_stk (pc := 76) (S' := [.int 20, .int x1]) fe_51_76 rfl ?_
      refine ay_t_stk (pc := 78) (S' := [.int (x1 - 20)]) fe_51_78 rfl ?_
      cases h
      exact ay_t_iret fe_51_79 rfl rfl
    · rw [if_neg hc1] at h
      refine ay_t_neg (pc := 7) hc1 fe_51_7 rfl ?_
      refine ay_t_loc (pc := 10) fe_51_10 rfl ?_
      refine ay_t_getR (pc := 11) (w := .ref 8) fe_51_11 at_33 (by decide +kernel) rfl ?_
      refine ay_t_loc (pc := 14) fe_51_14 rfl ?_
      cases hk4 : fn_34 x1 D with
      | none => rw [hk4] at h; cases h
      | some z =>
        obtain ⟨y2, D3⟩ := z
        rw [hk4] at h
        dsimp only at h
        refine ay_t_call (pc := 15) (w := some (.int y2)) fe_51_15 (ay_args [.ref 8, .int x1] [] rfl rfl (Nat.le_of_ble_eq_true rfl) (Nat.le_of_ble_eq_true rfl)) (ay_rcvV at_8 rfl) (ev_34 hk4) ?_
        by_cases hc5 : y2 = 0
        · rw [if_pos hc5] at h
          refine ay_t_pos (pc := 18) hc5 fe_51_18 rfl ?_
          refine ay_t_loc (pc := 66) fe_51_66 rfl ?_
          refine ay_t_getR (pc := 67) (w := .ref 36) fe_51_67 at_33 (by decide +kernel) rfl ?_
          refine ay_t_loc (pc := 70) fe_51_70 rfl ?_
          refine ay_t_stk (pc := 71) (S' := [.int 1, .int x1, .ref 36]) fe_51_71 rfl ?_
          refine ay_t_call (pc := 72) (w := none) fe_51_72 (ay_args [.ref 36, .int x1, .int 1] [] rfl rfl (Nat.le_of_ble_eq_true rfl) (Nat.le_of_ble_eq_true rfl)) (ay_rcvV at_36 rfl) (mt_raise at_36 at_37 (by decide)) ?_
          refine ay_t_loc (pc := 75) fe_51_75 rfl ?_
          refine ay_t_stk (pc := 76) (S' := [.int 20, .int x1]) fe_51_76 rfl ?_
          refine ay_t_stk (pc := 78) (S' := [.int (x1 - 20)]) fe_51_78 rfl ?_
          cases h
          exact ay_t_iret fe_51_79 rfl rfl
        · rw [if_neg hc5] at h
          refine ay_t_neg (pc := 18) hc5 fe_51_18 rfl ?_
          refine ay_t_loc (pc := 21) fe_51_21 rfl ?_
          refine ay_t_getR (pc := 22) (w := .ref 36) fe_51_22 at_33 (by decide +kernel) rfl ?_
          refine ay_t_loc (pc := 25) fe_51_25 rfl ?_
          refine ay_t_stk (pc := 26) (S' := [.int 1, .int x1, .ref 36]) fe_51_26 rfl ?_
          refine ay_t_call (pc := 27) (w := none) fe_51_27 (ay_args [.ref 36, .int x1, .int 1] [] rfl rfl (Nat.le_of_ble_eq_true rfl) (Nat.le_of_ble_eq_true rfl)) (ay_rcvV at_36 rfl) (mt_raise at_36 at_37 (by decide)) ?_
          refine ay_t_loc (pc := 30) fe_51_30 rfl ?_
          refine ay_t_getR (pc := 31) (w := .ref 34) fe_51_31 at_33 (by decide +kernel) rfl ?_
          refine ay_t_loc (pc := 34) fe_51_34 rfl ?_
          refine ay_t_call (pc := 35) (w := some (.int (rw_at ((rw_raise D3 37 25 x1 1) 35) 12 x1))) fe_51_35 (ay_args [.ref 34, .int x1] [] rfl rfl (Nat.le_of_ble_eq_true rfl) (Nat.le_of_ble_eq_true rfl)) (ay_rcvV at_34 rfl) (mt_at at_34 at_35 (by decide)) ?_
          refine ay_t_loc (pc := 38) (L' := [some (.ref 33), some (.int x1), some (.int x2), some (.int (rw_at ((rw_raise D3 37 25 x1 1) 35) 12 x1))]) fe_51_38 rfl ?_
          refine ay_t_loc (pc := 39) fe_51_39 rfl ?_
          refine ay_t_getR (pc := 40) (w := .ref 34) fe_51_40 at_33 (by decide +kernel) rfl ?_
          refine ay_t_loc (pc := 43) fe_51_43 rfl ?_
          refine ay_t_stk (pc := 44) (S' := [.int 1, .int x1, .ref 34]) fe_51_44 rfl ?_
          refine ay_t_loc (pc := 45) fe_51_45 rfl ?_
          refine ay_t_stk (pc := 46) (S' := [.int (1 - (rw_at ((rw_raise D3 37 25 x1 1) 35) 12 x1)), .int x1, .ref 34]) fe_51_46 rfl ?_
          refine ay_t_call (pc := 47) (w := none) fe_51_47 (ay_args [.ref 34, .int x1, .int (1 - (rw_at ((rw_raise D3 37 25 x1 1) 35) 12 x1))] [] rfl rfl (Nat.le_of_ble_eq_true rfl) (Nat.le_of_ble_eq_true rfl)) (ay_rcvV at_34 rfl) (mt_put at_34 at_35 (by decide)) ?_
          refine ay_t_loc (pc := 50) fe_51_50 rfl ?_
          refine ay_t_getR (pc := 51) (w := .ref 8) fe_51_51 at_33 (by decide +kernel) rfl ?_
          refine ay_t_loc (pc := 54) fe_51_54 rfl ?_
          refine ay_t_loc (pc := 55) fe_51_55 rfl ?_
          cases hk8 : fn_31 x1 (rw_at ((rw_raise D3 37 25 x1 1) 35) 12 x1) (rw_put (rw_raise D3 37 25 x1 1) 35 12 x1 (1 - (rw_at ((rw_raise D3 37 25 x1 1) 35) 12 x1))) with
          | none => rw [hk8] at h; cases h
          | some z =>
            obtain ⟨y6, D7⟩ := z
            rw [hk8] at h
            dsimp only at h
            refine ay_t_call (pc := 56) (w := some (.int y6)) fe_51_56 (ay_args [.ref 8, .int x1, .int (rw_at ((rw_raise D3 37 25 x1 1) 35) 12 x1)] [] rfl rfl (Nat.le_of_ble_eq_true rfl) (Nat.le_of_ble_eq_true rfl)) (ay_rcvV at_8 rfl) (ev_31 hk8) ?_
            refine ay_t_loc (pc := 59) (L' := [some (.ref 33), some (.int y6), some (.int x2), some (.int (rw_at ((rw_raise D3 37 25 x1 1) 35) 12 x1))]) fe_51_59 rfl ?_
            refine ay_t_loc (pc := 60) (L' := [some (.ref 33), some (.int y6), some (.int (x2 + 1)), some (.int (rw_at ((rw_raise D3 37 25 x1 1) 35) 12 x1))]) fe_51_60 rfl ?_
            refine ay_t_br (pc := 63) (pc' := 4) fe_51_63 rfl ?_
            exact ay_t_less (ay_ls (ay_ls (ay_ls (ay_ln ay_l0)))) (ih _ _ _ _ _ h)
def fn_51 (D : am_DD) : Option (Int32 × am_DD) := fn_51_4 am_F 0 0 D
set_option maxHeartbeats 2000000 in
theorem ev_51 {D : am_DD} {y : Int32} {Z : am_DD} (h : fn_51  D = some (y, Z)) : ay_mo 51 [.ref 33] D (.inl (some (.int y))) Z := by
  unfold fn_51 at h
  refine ay_m_of (L := [some (.ref 33), none, none, none]) rfl ?_
  refine ay_t_stk (pc := 0) (S' := [.int 0]) fe_51_0 rfl ?_
  refine ay_t_loc (pc := 1) (L' := [some (.ref 33), some (.int 0), none, none]) fe_51_1 rfl ?_
  refine ay_t_stk (pc := 2) (S' := [.int 0]) fe_51_2 rfl ?_
  refine ay_t_loc (pc := 3) (L' := [some (.ref 33), some (.int 0), some (.int 0), none]) fe_51_3 rfl ?_
  exact ay_t_less (ay_ls (ay_ls (ay_ls (ay_ls ay_l0)))) (ev_51_4 _ _ _ _ _ _ h)
def fn_53_19 : Nat → Int32 → am_DD → Option (Int32 × am_DD)
  | 0, _, _ => none
  | n + 1, x1, D => (if 4096 ≤ x1 then some (4096, D) else (match fn_51 D with | none => none | some (y9, D10) => (if (rw_same (D10 35) (D10 10) 12) = 0 then fn_53_19 n (x1 + 1) D10 else some (x1, D10))))
set_option maxHeartbeats 2000000 in
theorem ev_53_19 : ∀ (n : Nat) (x1 : Int32) (D : am_DD) (y : Int32) (Z : am_DD), fn_53_19 n x1 D = some (y, Z) → ay_to 53 19 [some (.ref 33), some (.int x1)] [] D (.inl (some (.int y))) Z := by
  intro n
  induction n with
  | zero => intro x1 D y Z h; cases h
  | succ n ih =>
    intro x1 D y Z h
    rw [fn_53_19] at h
    refine ay_t_loc (pc := 19) fe_53_19 rfl ?_
    refine ay_t_stk (pc := 20) (S' := [.int 4096, .int x1]) fe_53_20 rfl ?_
    by_cases hc8 : 4096 ≤ x1
    · rw [if_pos hc8] at h
      refine ay_t_pos (pc := 23) hc8 fe_53_23 rfl ?_
      refine ay_t_stk (pc := 56) (S' := [.int 4096]) fe_53_56 rfl ?_
      cases h
      exact ay_t_iret fe_53_59 rfl rfl
    · rw [if_neg hc8] at h
      refine ay_t_neg (pc := 23) hc8 fe_53_23 rfl ?_
      refine ay_t_loc (pc := 26) fe_53_26 rfl ?_
      cases hk11 : fn_51 D with
      | none => rw [hk11] at h; cases h
      | some z =>
        obtain ⟨y9, D10⟩ := z
        rw [hk11] at h
        dsimp only at h
        refine ay_t_call (pc := 27) (w := some (.int y9)) fe_53_27 (ay_args [.ref 33] [] rfl rfl (Nat.le_of_ble_eq_true rfl) (Nat.le_of_ble_eq_true rfl)) (ay_rcvV at_33 rfl) (ev_51 hk11) ?_
        refine ay_t_stk (pc := 30) (S' := []) fe_53_30 rfl ?_
        refine ay_t_loc (pc := 31) fe_53_31 rfl ?_
        refine ay_t_getR (pc := 32) (w := .ref 34) fe_53_32 at_33 (by decide +kernel) rfl ?_
        refine ay_t_loc (pc := 35) fe_53_35 rfl ?_
        refine ay_t_getR (pc := 36) (w := .ref 8) fe_53_36 at_33 (by decide +kernel) rfl ?_
        refine ay_t_getR (pc := 39) (w := .ref 9) fe_53_39 at_8 (by decide +kernel) rfl ?_
        refine ay_t_call (pc := 42) (w := some (.int (rw_same (D10 35) (D10 10) 12))) fe_53_42 (ay_args [.ref 34, .ref 9] [] rfl rfl (Nat.le_of_ble_eq_true rfl) (Nat.le_of_ble_eq_true rfl)) (ay_rcvV at_34 rfl) (mt_same at_34 at_35 at_9 at_10 (by decide)) ?_
        by_cases hc12 : (rw_same (D10 35) (D10 10) 12) = 0
        · rw [if_pos hc12] at h
          refine ay_t_pos (pc := 45) hc12 fe_53_45 rfl ?_
          refine ay_t_loc (pc := 50) (L' := [some (.ref 33), some (.int (x1 + 1))]) fe_53_50 rfl ?_
          refine ay_t_br (pc := 53) (pc' := 19) fe_53_53 rfl ?_
          exact ay_t_less (ay_ls (ay_ls ay_l0)) (ih _ _ _ _ h)
        · rw [if_neg hc12] at h
          refine ay_t_neg (pc := 45) hc12 fe_53_45 rfl ?_
          refine ay_t_loc (pc := 48) fe_53_48 rfl ?_
          cases h
          exact ay_t_iret fe_53_49 rfl rfl
def fn_53 (D : am_DD) : Option (Int32 × am_DD) := (match fn_34 0 D with | none => none | some (y1, D2) => (if ¬ y1 = 0 then (match fn_50 D2 with | none => none | some (y5, D6) => fn_53_19 am_F 1 D6) else some ((-1), D2)))
set_option maxHeartbeats 2000000 in
theorem ev_53 {D : am_DD} {y : Int32} {Z : am_DD} (h : fn_53  D = some (y, Z)) : ay_mo 53 [.ref 33] D (.inl (some (.int y))) Z := by
  unfold fn_53 at h
  refine ay_m_of (L := [some (.ref 33), none]) rfl ?_
  refine ay_t_loc (pc := 0) fe_53_0 rfl ?_
  refine ay_t_getR (pc := 1) (w := .ref 8) fe_53_1 at_33 (by decide +kernel) rfl ?_
  refine ay_t_stk (pc := 4) (S' := [.int 0, .ref 8]) fe_53_4 rfl ?_
  cases hk3 : fn_34 0 D with
  | none => rw [hk3] at h; cases h
  | some z =>
    obtain ⟨y1, D2⟩ := z
    rw [hk3] at h
    dsimp only at h
    refine ay_t_call (pc := 5) (w := some (.int y1)) fe_53_5 (ay_args [.ref 8, .int 0] [] rfl rfl (Nat.le_of_ble_eq_true rfl) (Nat.le_of_ble_eq_true rfl)) (ay_rcvV at_8 rfl) (ev_34 hk3) ?_
    by_cases hc4 : ¬ y1 = 0
    · rw [if_pos hc4] at h
      refine ay_t_pos (pc := 8) hc4 fe_53_8 rfl ?_
      refine ay_t_loc (pc := 13) fe_53_13 rfl ?_
      cases hk7 : fn_50 D2 with
      | none => rw [hk7] at h; cases h
      | some z =>
        obtain ⟨y5, D6⟩ := z
        rw [hk7] at h
        dsimp only at h
        refine ay_t_call (pc := 14) (w := none) fe_53_14 (ay_args [.ref 33] [] rfl rfl (Nat.le_of_ble_eq_true rfl) (Nat.le_of_ble_eq_true rfl)) (ay_rcvV at_33 rfl) (ev_50 hk7) ?_
        refine ay_t_stk (pc := 17) (S' := [.int 1]) fe_53_17 rfl ?_
        refine ay_t_loc (pc := 18) (L' := [some (.ref 33), some (.int 1)]) fe_53_18 rfl ?_
        exact ay_t_less (ay_ls (ay_ls ay_l0)) (ev_53_19 _ _ _ _ _ h)
    · rw [if_neg hc4] at h
      refine ay_t_neg (pc := 8) hc4 fe_53_8 rfl ?_
      refine ay_t_stk (pc := 11) (S' := [.int (-1)]) fe_53_11 rfl ?_
      cases h
      exact ay_t_iret fe_53_12 rfl rfl
def fn_54 (D : am_DD) : Option (Int32 × am_DD) := (match fn_53 D with | none => none | some (y1, D2) => some (y1, D2))
set_option maxHeartbeats 2000000 in
theorem ev_54 {D : am_DD} {y : Int32} {Z : am_DD} (h : fn_54  D = some (y, Z)) : ay_mo 54 [.ref 0] D (.inl (some (.int y))) Z := by
  unfold fn_54 at h
  refine ay_m_of (L := [some (.ref 0)]) rfl ?_
  refine ay_t_loc (pc := 0) fe_54_0 rfl ?_
  refine ay_t_getR (pc := 1) (w := .ref 33) fe_54_1 at_0 (by decide +kernel) rfl ?_
  cases hk3 : fn_53 D with
  | none => rw [hk3] at h; cases h
  | some z =>
    obtain ⟨y1, D2⟩ := z
    rw [hk3] at h
    dsimp only at h
    refine ay_t_call (pc := 4) (w := some (.int y1)) fe_54_4 (ay_args [.ref 33] [] rfl rfl (Nat.le_of_ble_eq_true rfl) (Nat.le_of_ble_eq_true rfl)) (ay_rcvV at_33 rfl) (ev_53 hk3) ?_
    cases h
    exact ay_t_iret fe_54_7 rfl rfl
def fn_55 (a1 : Int32) (D : am_DD) : Option (Int32 × am_DD) := (match fn_34 a1 D with | none => none | some (y1, D2) => (if ¬ y1 = 0 then some (1, D2) else (if a1 < 20 then some (0, D2) else (if 25 ≤ a1 then some (0, D2) else some (1, D2)))))
set_option maxHeartbeats 2000000 in
theorem ev_55 {a1 : Int32} {D : am_DD} {y : Int32} {Z : am_DD} (h : fn_55 a1 D = some (y, Z)) : ay_mo 55 [.ref 8, .int a1] D (.inl (some (.int y))) Z := by
  unfold fn_55 at h
  refine ay_m_of (L := [some (.ref 8), some (.int a1)]) rfl ?_
  refine ay_t_loc (pc := 0) fe_55_0 rfl ?_
  refine ay_t_loc (pc := 1) fe_55_1 rfl ?_
  cases hk3 : fn_34 a1 D with
  | none => rw [hk3] at h; cases h
  | some z =>
    obtain ⟨y1, D2⟩ := z
    rw [hk3] at h
    dsimp only at h
    refine ay_t_call (pc := 2) (w := some (.int y1)) fe_55_2 (ay_args [.ref 8, .int a1] [] rfl rfl (Nat.le_of_ble_eq_true rfl) (Nat.le_of_ble_eq_true rfl)) (ay_rcvV at_8 rfl) (ev_34 hk3) ?_
    by_cases hc4 : ¬ y1 = 0
    · rw [if_pos hc4] at h
      refine ay_t_pos (pc := 5) hc4 fe_55_5 rfl ?_
      refine ay_t_stk (pc := 20) (S' := [.int 1]) fe_55_20 rfl ?_
      refine ay_t_br (pc := 21) (pc' := 25) fe_55_21 rfl ?_
      cases h
      exact ay_t_iret fe_55_25 rfl rfl
    · rw [if_neg hc4] at h
      refine ay_t_neg (pc := 5) hc4 fe_55_5 rfl ?_
      refine ay_t_loc (pc := 8) fe_55_8 rfl ?_
      refine ay_t_stk (pc := 9) (S' := [.int 20, .int a1]) fe_55_9 rfl ?_
      by_cases hc5 : a1 < 20
      · rw [if_pos hc5] at h
        refine ay_t_pos (pc := 11) hc5 fe_55_11 rfl ?_
        refine ay_t_stk (pc := 24) (S' := [.int 0]) fe_55_24 rfl ?_
        cases h
        exact ay_t_iret fe_55_25 rfl rfl
      · rw [if_neg hc5] at h
        refine ay_t_neg (pc := 11) hc5 fe_55_11 rfl ?_
        refine ay_t_loc (pc := 14) fe_55_14 rfl ?_
        refine ay_t_stk (pc := 15) (S' := [.int 25, .int a1]) fe_55_15 rfl ?_
        by_cases hc6 : 25 ≤ a1
        · rw [if_pos hc6] at h
          refine ay_t_pos (pc := 17) hc6 fe_55_17 rfl ?_
          refine ay_t_stk (pc := 24) (S' := [.int 0]) fe_55_24 rfl ?_
          cases h
          exact ay_t_iret fe_55_25 rfl rfl
        · rw [if_neg hc6] at h
          refine ay_t_neg (pc := 17) hc6 fe_55_17 rfl ?_
          refine ay_t_stk (pc := 20) (S' := [.int 1]) fe_55_20 rfl ?_
          refine ay_t_br (pc := 21) (pc' := 25) fe_55_21 rfl ?_
          cases h
          exact ay_t_iret fe_55_25 rfl rfl
def fn_56 (a1 : Int32) (D : am_DD) : Option (Int32 × am_DD) := (if a1 < 0 then some (0, D) else (if 1000 < a1 then some (0, D) else some (1, D)))
set_option maxHeartbeats 2000000 in
theorem ev_56 {a1 : Int32} {D : am_DD} {y : Int32} {Z : am_DD} (h : fn_56 a1 D = some (y, Z)) : ay_mo 56 [.int a1] D (.inl (some (.int y))) Z := by
  unfold fn_56 at h
  refine ay_m_of (L := [some (.int a1)]) rfl ?_
  refine ay_t_loc (pc := 0) fe_56_0 rfl ?_
  by_cases hc1 : a1 < 0
  · rw [if_pos hc1] at h
    refine ay_t_pos (pc := 1) hc1 fe_56_1 rfl ?_
    refine ay_t_stk (pc := 15) (S' := [.int 0]) fe_56_15 rfl ?_
    cases h
    exact ay_t_iret fe_56_16 rfl rfl
  · rw [if_neg hc1] at h
    refine ay_t_neg (pc := 1) hc1 fe_56_1 rfl ?_
    refine ay_t_loc (pc := 4) fe_56_4 rfl ?_
    refine ay_t_stk (pc := 5) (S' := [.int 1000, .int a1]) fe_56_5 rfl ?_
    by_cases hc2 : 1000 < a1
    · rw [if_pos hc2] at h
      refine ay_t_pos (pc := 8) hc2 fe_56_8 rfl ?_
      refine ay_t_stk (pc := 15) (S' := [.int 0]) fe_56_15 rfl ?_
      cases h
      exact ay_t_iret fe_56_16 rfl rfl
    · rw [if_neg hc2] at h
      refine ay_t_neg (pc := 8) hc2 fe_56_8 rfl ?_
      refine ay_t_stk (pc := 11) (S' := [.int 1]) fe_56_11 rfl ?_
      refine ay_t_br (pc := 12) (pc' := 16) fe_56_12 rfl ?_
      cases h
      exact ay_t_iret fe_56_16 rfl rfl
def fn_57_19 : Nat → Int32 → Int32 → Int32 → am_DD → Option (Int32 × am_DD)
  | 0, _, _, _, _ => none
  | n + 1, x1, x2, x3, D => (if x1 ≤ x3 then some ((rw_at (D 37) 25 x2), D) else (match fn_51 D with | none => none | some (y9, D10) => fn_57_19 n x1 x2 (x3 + 1) D10))
set_option maxHeartbeats 2000000 in
theorem ev_57_19 : ∀ (n : Nat) (x1 x2 x3 : Int32) (D : am_DD) (y : Int32) (Z : am_DD), fn_57_19 n x1 x2 x3 D = some (y, Z) → ay_to 57 19 [some (.ref 33), some (.int x1), some (.int x2), some (.int x3)] [] D (.inl (some (.int y))) Z := by
  intro n
  induction n with
  | zero => intro x1 x2 x3 D y Z h; cases h
  | succ n ih =>
    intro x1 x2 x3 D y Z h
    rw [fn_57_19] at h
    refine ay_t_loc (pc := 19) fe_57_19 rfl ?_
    refine ay_t_loc (pc := 20) fe_57_20 rfl ?_
    by_cases hc8 : x1 ≤ x3
    · rw [if_pos hc8] at h
      refine ay_t_pos (pc := 21) hc8 fe_57_21 rfl ?_
      refine ay_t_loc (pc := 35) fe_57_35 rfl ?_
      refine ay_t_getR (pc := 36) (w := .ref 36) fe_57_36 at_33 (by decide +kernel) rfl ?_
      refine ay_t_loc (pc := 39) fe_57_39 rfl ?_
      refine ay_t_call (pc := 40) (w := some (.int (rw_at (D 37) 25 x2))) fe_57_40 (ay_args [.ref 36, .int x2] [] rfl rfl (Nat.le_of_ble_eq_true rfl) (Nat.le_of_ble_eq_true rfl)) (ay_rcvV at_36 rfl) (mt_at at_36 at_37 (by decide)) ?_
      cases h
      exact ay_t_iret fe_57_43 rfl rfl
    · rw [if_neg hc8] at h
      refine ay_t_neg (pc := 21) hc8 fe_57_21 rfl ?_
      refine ay_t_loc (pc := 24) fe_57_24 rfl ?_
      cases hk11 : fn_51 D with
      | none => rw [hk11] at h; cases h
      | some z =>
        obtain ⟨y9, D10⟩ := z
        rw [hk11] at h
        dsimp only at h
        refine ay_t_call (pc := 25) (w := some (.int y9)) fe_57_25 (ay_args [.ref 33] [] rfl rfl (Nat.le_of_ble_eq_true rfl) (Nat.le_of_ble_eq_true rfl)) (ay_rcvV at_33 rfl) (ev_51 hk11) ?_
        refine ay_t_stk (pc := 28) (S' := []) fe_57_28 rfl ?_
        refine ay_t_loc (pc := 29) (L' := [some (.ref 33), some (.int x1), some (.int x2), some (.int (x3 + 1))]) fe_57_29 rfl ?_
        refine ay_t_br (pc := 32) (pc' := 19) fe_57_32 rfl ?_
        exact ay_t_less (ay_ls (ay_ls (ay_ls (ay_ls ay_l0)))) (ih _ _ _ _ _ _ h)
def fn_57 (a1 a2 : Int32) (D : am_DD) : Option (Int32 × am_DD) := (match fn_34 0 D with | none => none | some (y1, D2) => (if ¬ y1 = 0 then (match fn_50 D2 with | none => none | some (y5, D6) => fn_57_19 am_F a1 a2 0 D6) else some (0, D2)))
set_option maxHeartbeats 2000000 in
theorem ev_57 {a1 a2 : Int32} {D : am_DD} {y : Int32} {Z : am_DD} (h : fn_57 a1 a2 D = some (y, Z)) : ay_mo 57 [.ref 33, .int a1, .int a2] D (.inl (some (.int y))) Z := by
  unfold fn_57 at h
  refine ay_m_of (L := [some (.ref 33), some (.int a1), some (.int a2), none]) rfl ?_
  refine ay_t_loc (pc := 0) fe_57_0 rfl ?_
  refine ay_t_getR (pc := 1) (w := .ref 8) fe_57_1 at_33 (by decide +kernel) rfl ?_
  refine ay_t_stk (pc := 4) (S' := [.int 0, .ref 8]) fe_57_4 rfl ?_
  cases hk3 : fn_34 0 D with
  | none => rw [hk3] at h; cases h
  | some z =>
    obtain ⟨y1, D2⟩ := z
    rw [hk3] at h
    dsimp only at h
    refine ay_t_call (pc := 5) (w := some (.int y1)) fe_57_5 (ay_args [.ref 8, .int 0] [] rfl rfl (Nat.le_of_ble_eq_true rfl) (Nat.le_of_ble_eq_true rfl)) (ay_rcvV at_8 rfl) (ev_34 hk3) ?_
    by_cases hc4 : ¬ y1 = 0
    · rw [if_pos hc4] at h
      refine ay_t_pos (pc := 8) hc4 fe_57_8 rfl ?_
      refine ay_t_loc (pc := 13) fe_57_13 rfl ?_
      cases hk7 : fn_50 D2 with
      | none => rw [hk7] at h; cases h
      | some z =>
        obtain ⟨y5, D6⟩ := z
        rw [hk7] at h
        dsimp only at h
        refine ay_t_call (pc := 14) (w := none) fe_57_14 (ay_args [.ref 33] [] rfl rfl (Nat.le_of_ble_eq_true rfl) (Nat.le_of_ble_eq_true rfl)) (ay_rcvV at_33 rfl) (ev_50 hk7) ?_
        refine ay_t_stk (pc := 17) (S' := [.int 0]) fe_57_17 rfl ?_
        refine ay_t_loc (pc := 18) (L' := [some (.ref 33), some (.int a1), some (.int a2), some (.int 0)]) fe_57_18 rfl ?_
        exact ay_t_less (ay_ls (ay_ls (ay_ls (ay_ls ay_l0)))) (ev_57_19 _ _ _ _ _ _ _ h)
    · rw [if_neg hc4] at h
      refine ay_t_neg (pc := 8) hc4 fe_57_8 rfl ?_
      refine ay_t_stk (pc := 11) (S' := [.int 0]) fe_57_11 rfl ?_
      cases h
      exact ay_t_iret fe_57_12 rfl rfl
def fn_58_18 : Nat → Int32 → Int32 → am_DD → Option (Int32 × am_DD)
  | 0, _, _, _ => none
  | n + 1, x2, x3, D => (if (D 8 0) ≤ x3 then some ((rw_at (D 37) 25 x2), D) else (match fn_31 x3 (rw_at (D 10) 12 x3) D with | none => none | some (y2, D3) => (match fn_31 x3 (1 - (rw_at (D 10) 12 x3)) (rw_raise D3 37 25 y2 (((rw_at (D 37) 25 x3) + 1) / 2)) with | none => none | some (y5, D6) => fn_58_18 n x2 (x3 + 1) (rw_raise D6 37 25 y5 ((rw_at (D 37) 25 x3) / 2)))))
set_option maxHeartbeats 2000000 in
theorem ev_58_18 : ∀ (n : Nat) (x2 x3 : Int32) (D : am_DD) (y : Int32) (Z : am_DD), fn_58_18 n x2 x3 D = some (y, Z) → ay_to 58 18 [some (.ref 33), none, some (.int x2), some (.int x3), none, none] [] D (.inl (some (.int y))) Z := by
  intro n
  induction n with
  | zero => intro x2 x3 D y Z h; cases h
  | succ n ih =>
    intro x2 x3 D y Z h
    rw [fn_58_18] at h
    refine ay_t_loc (pc := 18) fe_58_18 rfl ?_
    refine ay_t_loc (pc := 19) fe_58_19 rfl ?_
    refine ay_t_getR (pc := 20) (w := .ref 8) fe_58_20 at_33 (by decide +kernel) rfl ?_
    refine ay_t_getI (pc := 23) fe_58_23 at_8 (by decide +kernel) rfl ?_
    by_cases hc1 : (D 8 0) ≤ x3
    · rw [if_pos hc1] at h
      refine ay_t_pos (pc := 26) hc1 fe_58_26 rfl ?_
      refine ay_t_loc (pc := 104) fe_58_104 rfl ?_
      refine ay_t_getR (pc := 105) (w := .ref 36) fe_58_105 at_33 (by decide +kernel) rfl ?_
      refine ay_t_loc (pc := 108) fe_58_108 rfl ?_
      refine ay_t_call (pc := 109) (w := some (.int (rw_at (D 37) 25 x2))) fe_58_109 (ay_args [.ref 36, .int x2] [] rfl rfl (Nat.le_of_ble_eq_true rfl) (Nat.le_of_ble_eq_true rfl)) (ay_rcvV at_36 rfl) (mt_at at_36 at_37 (by decide)) ?_
      cases h
      exact ay_t_iret fe_58_112 rfl rfl
    · rw [if_neg hc1] at h
      refine ay_t_neg (pc := 26) hc1 fe_58_26 rfl ?_
      refine ay_t_loc (pc := 29) fe_58_29 rfl ?_
      refine ay_t_getR (pc := 30) (w := .ref 8) fe_58_30 at_33 (by decide +kernel) rfl ?_
      refine ay_t_getR (pc := 33) (w := .ref 9) fe_58_33 at_8 (by decide +kernel) rfl ?_
      refine ay_t_loc (pc := 36) fe_58_36 rfl ?_
      refine ay_t_call (pc := 37) (w := some (.int (rw_at (D 10) 12 x3))) fe_58_37 (ay_args [.ref 9, .int x3] [] rfl rfl (Nat.le_of_ble_eq_true rfl) (Nat.le_of_ble_eq_true rfl)) (ay_rcvV at_9 rfl) (mt_at at_9 at_10 (by decide)) ?_
      refine ay_t_loc (pc := 40) (L' := [some (.ref 33), none, some (.int x2), some (.int x3), some (.int (rw_at (D 10) 12 x3)), none]) fe_58_40 rfl ?_
      refine ay_t_loc (pc := 42) fe_58_42 rfl ?_
      refine ay_t_getR (pc := 43) (w := .ref 36) fe_58_43 at_33 (by decide +kernel) rfl ?_
      refine ay_t_loc (pc := 46) fe_58_46 rfl ?_
      refine ay_t_call (pc := 47) (w := some (.int (rw_at (D 37) 25 x3))) fe_58_47 (ay_args [.ref 36, .int x3] [] rfl rfl (Nat.le_of_ble_eq_true rfl) (Nat.le_of_ble_eq_true rfl)) (ay_rcvV at_36 rfl) (mt_at at_36 at_37 (by decide)) ?_
      refine ay_t_loc (pc := 50) (L' := [some (.ref 33), none, some (.int x2), some (.int x3), some (.int (rw_at (D 10) 12 x3)), some (.int (rw_at (D 37) 25 x3))]) fe_58_50 rfl ?_
      refine ay_t_loc (pc := 52) fe_58_52 rfl ?_
      refine ay_t_getR (pc := 53) (w := .ref 36) fe_58_53 at_33 (by decide +kernel) rfl ?_
      refine ay_t_loc (pc := 56) fe_58_56 rfl ?_
      refine ay_t_getR (pc := 57) (w := .ref 8) fe_58_57 at_33 (by decide +kernel) rfl ?_
      refine ay_t_loc (pc := 60) fe_58_60 rfl ?_
      refine ay_t_loc (pc := 61) fe_58_61 rfl ?_
      cases hk4 : fn_31 x3 (rw_at (D 10) 12 x3) D with
      | none => rw [hk4] at h; cases h
      | some z =>
        obtain ⟨y2, D3⟩ := z
        rw [hk4] at h
        dsimp only at h
        refine ay_t_call (pc := 63) (w := some (.int y2)) fe_58_63 (ay_args [.ref 8, .int x3, .int (rw_at (D 10) 12 x3)] [.ref 36] rfl rfl (Nat.le_of_ble_eq_true rfl) (Nat.le_of_ble_eq_true rfl)) (ay_rcvV at_8 rfl) (ev_31 hk4) ?_
        refine ay_t_loc (pc := 66) fe_58_66 rfl ?_
        refine ay_t_stk (pc := 68) (S' := [.int 1, .int (rw_at (D 37) 25 x3), .int y2, .ref 36]) fe_58_68 rfl ?_
        refine ay_t_stk (pc := 69) (S' := [.int ((rw_at (D 37) 25 x3) + 1), .int y2, .ref 36]) fe_58_69 rfl ?_
        refine ay_t_stk (pc := 70) (S' := [.int 2, .int ((rw_at (D 37) 25 x3) + 1), .int y2, .ref 36]) fe_58_70 rfl ?_
        refine ay_t_stk (pc := 71) (S' := [.int (((rw_at (D 37) 25 x3) + 1) / 2), .int y2, .ref 36]) fe_58_71 (ay_idiv (by decide)) ?_
        refine ay_t_call (pc := 72) (w := none) fe_58_72 (ay_args [.ref 36, .int y2, .int (((rw_at (D 37) 25 x3) + 1) / 2)] [] rfl rfl (Nat.le_of_ble_eq_true rfl) (Nat.le_of_ble_eq_true rfl)) (ay_rcvV at_36 rfl) (mt_raise at_36 at_37 (by decide)) ?_
        refine ay_t_loc (pc := 75) fe_58_75 rfl ?_
        refine ay_t_getR (pc := 76) (w := .ref 36) fe_58_76 at_33 (by decide +kernel) rfl ?_
        refine ay_t_loc (pc := 79) fe_58_79 rfl ?_
        refine ay_t_getR (pc := 80) (w := .ref 8) fe_58_80 at_33 (by decide +kernel) rfl ?_
        refine ay_t_loc (pc := 83) fe_58_83 rfl ?_
        refine ay_t_stk (pc := 84) (S' := [.int 1, .int x3, .ref 8, .ref 36]) fe_58_84 rfl ?_
        refine ay_t_loc (pc := 85) fe_58_85 rfl ?_
        refine ay_t_stk (pc := 87) (S' := [.int (1 - (rw_at (D 10) 12 x3)), .int x3, .ref 8, .ref 36]) fe_58_87 rfl ?_
        cases hk7 : fn_31 x3 (1 - (rw_at (D 10) 12 x3)) (rw_raise D3 37 25 y2 (((rw_at (D 37) 25 x3) + 1) / 2)) with
        | none => rw [hk7] at h; cases h
        | some z =>
          obtain ⟨y5, D6⟩ := z
          rw [hk7] at h
          dsimp only at h
          refine ay_t_call (pc := 88) (w := some (.int y5)) fe_58_88 (ay_args [.ref 8, .int x3, .int (1 - (rw_at (D 10) 12 x3))] [.ref 36] rfl rfl (Nat.le_of_ble_eq_true rfl) (Nat.le_of_ble_eq_true rfl)) (ay_rcvV at_8 rfl) (ev_31 hk7) ?_
          refine ay_t_loc (pc := 91) fe_58_91 rfl ?_
          refine ay_t_stk (pc := 93) (S' := [.int 2, .int (rw_at (D 37) 25 x3), .int y5, .ref 36]) fe_58_93 rfl ?_
          refine ay_t_stk (pc := 94) (S' := [.int ((rw_at (D 37) 25 x3) / 2), .int y5, .ref 36]) fe_58_94 (ay_idiv (by decide)) ?_
          refine ay_t_call (pc := 95) (w := none) fe_58_95 (ay_args [.ref 36, .int y5, .int ((rw_at (D 37) 25 x3) / 2)] [] rfl rfl (Nat.le_of_ble_eq_true rfl) (Nat.le_of_ble_eq_true rfl)) (ay_rcvV at_36 rfl) (mt_raise at_36 at_37 (by decide)) ?_
          refine ay_t_loc (pc := 98) (L' := [some (.ref 33), none, some (.int x2), some (.int (x3 + 1)), some (.int (rw_at (D 10) 12 x3)), some (.int (rw_at (D 37) 25 x3))]) fe_58_98 rfl ?_
          refine ay_t_br (pc := 101) (pc' := 18) fe_58_101 rfl ?_
          exact ay_t_less (ay_ls (ay_ls (ay_ls (ay_ls (ay_ln (ay_ln ay_l0)))))) (ih _ _ _ _ _ h)
def fn_58 (a1 a2 : Int32) (D : am_DD) : Option (Int32 × am_DD) := fn_58_18 am_F a2 0 (rw_put (rw_wipe D 37 25) 37 25 0 a1)
set_option maxHeartbeats 2000000 in
theorem ev_58 {a1 a2 : Int32} {D : am_DD} {y : Int32} {Z : am_DD} (h : fn_58 a1 a2 D = some (y, Z)) : ay_mo 58 [.ref 33, .int a1, .int a2] D (.inl (some (.int y))) Z := by
  unfold fn_58 at h
  refine ay_m_of (L := [some (.ref 33), some (.int a1), some (.int a2), none, none, none]) rfl ?_
  refine ay_t_loc (pc := 0) fe_58_0 rfl ?_
  refine ay_t_getR (pc := 1) (w := .ref 36) fe_58_1 at_33 (by decide +kernel) rfl ?_
  refine ay_t_call (pc := 4) (w := none) fe_58_4 (ay_args [.ref 36] [] rfl rfl (Nat.le_of_ble_eq_true rfl) (Nat.le_of_ble_eq_true rfl)) (ay_rcvV at_36 rfl) (mt_wipe at_36 at_37 (by decide)) ?_
  refine ay_t_loc (pc := 7) fe_58_7 rfl ?_
  refine ay_t_getR (pc := 8) (w := .ref 36) fe_58_8 at_33 (by decide +kernel) rfl ?_
  refine ay_t_stk (pc := 11) (S' := [.int 0, .ref 36]) fe_58_11 rfl ?_
  refine ay_t_loc (pc := 12) fe_58_12 rfl ?_
  refine ay_t_call (pc := 13) (w := none) fe_58_13 (ay_args [.ref 36, .int 0, .int a1] [] rfl rfl (Nat.le_of_ble_eq_true rfl) (Nat.le_of_ble_eq_true rfl)) (ay_rcvV at_36 rfl) (mt_put at_36 at_37 (by decide)) ?_
  refine ay_t_stk (pc := 16) (S' := [.int 0]) fe_58_16 rfl ?_
  refine ay_t_loc (pc := 17) (L' := [some (.ref 33), some (.int a1), some (.int a2), some (.int 0), none, none]) fe_58_17 rfl ?_
  exact ay_t_less (ay_ls (ay_ln (ay_ls (ay_ls (ay_ls (ay_ls ay_l0)))))) (ev_58_18 _ _ _ _ _ _ h)
