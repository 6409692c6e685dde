/-! letsOut and act by contract -/
theorem ln_lh_swap {ls : Array Slot} {nL base b b' : Nat} {L : am_LL} (hL : ∀ v, some v ∈ L → v ≠ .ref am_scr) (h : am_lh ls nL base b L) : am_lh ls nL base b' L := by
  refine ⟨h.1, h.2.1, h.2.2.1, fun q hq => ?_⟩
  obtain ⟨v, h1, h2⟩ := am_lv_mem.mp hq
  refine h.2.2.2 q (am_lv_mem.mpr ⟨v, h1, ?_⟩)
  have hv := hL v (List.mem_of_getElem? h1)
  rw [h2]
  cases v <;> first | rfl | skip
  rename_i k
  have hk : k ≠ am_scr := fun z => hv (by rw [z])
  show Value.ref (am_ad base b' k) = Value.ref (am_ad base b k)
  unfold am_ad
  rw [if_neg hk, if_neg hk]
set_option maxHeartbeats 8000000 in
theorem ln_lets {l : Launch} (hl : l.stackTraces = false) {Dg : va_G} {base b : Nat} {cs : am_CS} {m0 w0 : Int32} {I J : am_DD → Prop} (hI : ∀ D, I D → I (ln_D0 D)) (hlo : ∀ D, I D → ∃ D', fn_104 m0 w0 D = some (1, D') ∧ J D') :
    Met l (am_y 104) (ax_ws 104) { frames := am_fr 104, cells := 1, slots := 17, locals := am_lo 104 } (ln_P Dg base b cs (fun _ => True) I [.ref 0, .int m0, .int w0]) (ln_Q Dg base b cs (fun v D => v = 1 ∧ J D)) 1 17 (fun q => base ≤ q) := by
  refine ax_met_of (ax_ofW (by decide) ?_)
  intro p e s m args below meth c s₁ B hml hv
  obtain ⟨rfl, hE, -, D, hID, hY⟩ := hv
  obtain ⟨ls, he, hL⟩ := ax_entry (a := 104) (base := base) (b := b) (As := [.ref 0, .int m0, .int w0]) (fun v hv => by
    rcases List.mem_cons.mp hv with h | h
    · rw [h]; rfl
    · rcases List.mem_cons.mp h with h | h
      · rw [h]; rfl
      · rw [List.mem_singleton.mp h]; rfl) (show 3 ≤ am_mL 104 by decide +kernel) m
  rw [he]
  have hC := ax_ctx_of (scr := some 17) (b := s.heap.size) hl B hml hE (Nat.le_refl _) (Nat.le_refl _)
  refine vx_ret ?_
  obtain ⟨hx, hb, -, hown, hts, ⟨hK, -⟩, -, -, -, -, -, -, hlocks, hret⟩ := id hC
  have e0 : am_L0 104 [.ref 0, .int m0, .int w0] = [some (.ref 0), some (.int m0), some (.int w0), none, none, none, none] := rfl
  have e7 : am_mL 104 = 7 := by decide +kernel
  rw [e0, e7] at hL
  have hL2 : am_lh ls 7 base s.heap.size [some (.ref 0), some (.int m0), some (.int w0), none, none, none, none] := ln_lh_swap (fun v hv => by
    simp only [List.mem_cons, Option.some.injEq] at hv
    rcases hv with rfl | rfl | rfl | h | h | h | h | h
    · decide
    · exact fun z => by cases z
    · exact fun z => by cases z
    all_goals first | (cases h; done) | exact absurd h List.not_mem_nil) hL
  have hw1 : (Cond.arrayClass (newarray.typeOf .int)).before (List.map (am_tr base b) [.ref 0, .int m0, .int w0]).toArray s = true := hts _ ((am_row_of fe_104_2).2.2.1 _ (by simp [am_word]))
  refine lv_bipush (v := 17) hx hb (am_row_of fe_104_0).1 rfl ?_
  refine va_newaK (atype := .int) (N := 17) (h := s.heap.size) hx hb hw1 rfl (am_row_of fe_104_2).1 rfl (by decide) (by decide) (by decide) (Nat.le_refl _) (Nat.le_refl _) rfl fun H' cA e1 z1 o1 hAr hNm => ?_
  have hcA : cA = cs.1 := Option.some.inj (hNm.symm.trans (hK.2 0 _ rfl).2)
  subst hcA
  show W p l e _ s m _ below meth c H' [] (0 + 1) (0 + 17) _ (F0 m 4 ls [.ref s.heap.size])
  have hS' : va_S (fun q => base ≤ q) s.heap H' [] := va_S.push va_S.rf z1 o1
  refine lv_astore_n hx hb (am_row_of fe_104_4).1 rfl hL2.2 (by decide) rfl fun ls' h' => ?_
  have hL3 : am_lh ls' 7 base s.heap.size [some (.ref 0), some (.int m0), some (.int w0), some (.ref am_scr), none, none, none] := am_lh_st1 (i := 3) (v := .ref am_scr) hL2 rfl (by decide) (by
    rw [show am_tr base s.heap.size (.ref am_scr) = .ref s.heap.size from congrArg Value.ref (if_pos rfl)]
    exact h')
  have hSK : ay_SK.length ≤ 1000000 := by decide +kernel
  have hSK2 : base + ay_SK.length ≤ s.heap.size := by
    have h321 : ay_SK.length = 321 := by decide +kernel
    have h := hY.1 320 _ (show ay_SK[320]? = some (ay_SK[320]'(by rw [h321]; decide)) from List.getElem?_eq_getElem _)
    have := h.lt
    simp only at this
    omega
  have hY0 : am_dyn false (some 17) Dg base s.heap.size cs ay_SK (ln_D0 D) H' := by
    refine ⟨fun k sc hk => (ln_P_swap (fun a ha => ln_D0_row (by unfold am_scr; omega)) hY.1 k sc hk).kept (o1 _ ?_), by rw [z1]; exact Nat.le_succ_of_le hY.2.1, (fun h => by cases h), fun n hn => ?_⟩
    · exact (hY.1 k sc hk).lt
    · cases hn
      refine ⟨?_, hSK2, hSK⟩
      show H'[s.heap.size]? = some (vp_cell cs.1 (17, .inl (ln_D0 D am_scr)))
      rw [e1, vp_cell_i]
      rfl
  obtain ⟨D', hf, hJ⟩ := hlo _ (hI D hID)
  obtain ⟨r, ⟨n, hn⟩, hend⟩ := ev_104 hf
  refine ax_sim n false (some 17) 104 5 _ [] ay_SK (ln_D0 D) r ay_SK D' 0 0 hn p l e _ s m _ below meth c H' [] (0 + 1) (0 + 17) _ Dg cs base s.heap.size ls' hC hS' hY0 (by rw [e7]; exact hL3) (Nat.le_refl _) (Nat.le_refl _) fun H2 locs2 ls2 hS2 hY2 hL2 => ?_
  exact ln_leave hC hend hS2 fun t ht => ⟨1, D', rfl, ⟨rfl, hJ⟩, by rw [ht]; exact ln_dyn_swap (fun _ _ => rfl) hY2, hS2.F ht⟩
/-- act, behind its call of letsOut -/
theorem ln_tail {L : am_LL} {D : am_DD} : ay_tz 0 0 105 661 L [.int 1] D (fun r D' => D' = D ∧ am_end 105 r = some (.inl (some (.int 1)))) := by
  refine ay_q_neg (pc := 661) (Q := (1 : Int32) = 0) (by decide) fe_105_661 rfl ?_
  refine ay_q_stk (pc := 664) (S' := [.int 1]) fe_105_664 rfl ?_
  refine ay_q_br (pc := 665) (pc' := 669) fe_105_665 rfl ?_
  exact ay_q_end fe_105_669 (by decide) ⟨rfl, by simp [am_end, fe_105_669, show am_ret 105 = some .boolean from rfl]; rfl⟩
/-- what is asked of act: an answer 1, or the call of letsOut with a count that is allowed -/
def ln_actok (J : am_DD → Prop) (x : (Int32 × am_DD) ⊕ (Int32 × Int32 × am_DD)) : Prop := match x with
  | .inl (y, D) => y = 1 ∧ J D
  | .inr (m, w, D) => ∃ I : am_DD → Prop, I D ∧ (∀ D, I D → I (ln_D0 D)) ∧ ∀ D, I D → ∃ D', fn_104 m w D = some (1, D') ∧ J D'
set_option maxHeartbeats 8000000 in
theorem ln_act {l : Launch} (hl : l.stackTraces = false) {Dg : va_G} {base b : Nat} {cs : am_CS} {v0 w0 : Int32} {I J : am_DD → Prop} (hact : ∀ D, I D → ∃ x, fn_105 v0 w0 D = some x ∧ ln_actok J x) :
    Met l (am_y 105) (ax_ws 105) { frames := am_fr 105, cells := 2, slots := 23, locals := am_lo 105 } (ln_P Dg base b cs (fun _ => True) I [.ref 0, .int v0, .int w0]) (ln_Q Dg base b cs (fun v D => v = 1 ∧ J D)) 2 23 (fun q => base ≤ q) := by
  refine ax_met_of (ax_ofW (by decide) ?_)
  intro p e s m args below meth c s₁ B hml hv
  obtain ⟨rfl, hE, -, D, hID, hY⟩ := hv
  obtain ⟨ls, he, hL⟩ := ax_entry (a := 105) (base := base) (b := b) (As := [.ref 0, .int v0, .int w0]) (fun v hv => by
    rcases List.mem_cons.mp hv with h | h
    · rw [h]; rfl
    · rcases List.mem_cons.mp h with h | h
      · rw [h]; rfl
      · rw [List.mem_singleton.mp h]; rfl) (show 3 ≤ am_mL 105 by decide +kernel) m
  rw [he]
  have hC := ax_ctx_of (scr := none) (b := b) hl B hml hE (Nat.le_refl _) (Nat.le_refl _)
  refine vx_ret ?_
  obtain ⟨x, hf, hx⟩ := hact D hID
  obtain ⟨r, D1, c1, s1, hc1, hs1, ⟨n, hn⟩, hP⟩ := ev_105 hf none
  have hr : ∀ z : Nat, 0 + z = z := Nat.zero_add
  refine ax_sim n false none 105 0 _ [] ay_SK D r ay_SK D1 c1 s1 hn p l e _ s m _ below meth c s.heap [] 0 0 _ Dg cs base b ls hC va_S.rf hY hL (by rw [hr]; exact Nat.le_trans hc1 (by decide)) (by rw [hr]; exact Nat.le_trans hs1 (by decide)) fun H2 locs2 ls2 hS2 hY2 hL2 => ?_
  cases x with
  | inl z =>
    obtain ⟨y, Z⟩ := z
    obtain ⟨rfl, hend⟩ := hP
    obtain ⟨rfl, hJ⟩ := hx
    refine W.widen (k := 2) (n := 23) (by omega) (by omega) ?_
    exact ln_leave hC hend hS2 fun t ht => ⟨1, Z, rfl, ⟨rfl, hJ⟩, by rw [ht]; exact hY2, hS2.F ht⟩
  | inr z =>
    obtain ⟨m0, w1, Z⟩ := z
    obtain ⟨rfl, hpc, hst⟩ := hP
    obtain ⟨I2, hI2, hI3, hlo⟩ := hx
    obtain ⟨pc2, L2, S2⟩ := r
    dsimp only at hpc hst hL2
    subst hpc
    subst hst
    refine W.widen (k := 1) (n := 6) (by omega) (by omega) ?_
    have hM := ln_lets (Dg := Dg) (base := base) (b := b) (cs := cs) hl hI3 hlo
    have hgo := ln_go12 (cells := 1) (slots := 6) (locs := locs2) (H := H2) (e := e) (below := below) (As := [.ref 0, .int m0, .int w1]) (S1 := []) hC hL2.2.1 fe_105_658 rfl (by decide) hM (ln_blind fun _ _ _ _ h => h) (fun U hU hW => ⟨rfl, ax_env.moved hW (fun q h1 h2 => by rw [hU]; exact hS2.2.1 q h1 h2) hE, trivial, Z, hI2, by rw [hU]; exact hY2⟩) (Nat.le_refl _) (Nat.le_refl _)
    refine ln_back hgo hS2 fun H3 locs3 v D3 hS3 hv hY3 => ?_
    obtain ⟨rfl, hJ⟩ := hv
    obtain ⟨r4, D4, c4, s4, hc4, hs4, ⟨n4, hn4⟩, rfl, hend⟩ := ln_tail (L := L2) (D := D3) none
    obtain rfl : c4 = 0 := by omega
    obtain rfl : s4 = 0 := by omega
    refine ax_sim n4 false none 105 661 L2 [.int 1] ay_SK D4 r4 ay_SK D4 0 0 hn4 p l e _ s m _ below meth c H3 locs3 (1 + 1) (6 + 17) _ Dg cs base b ls2 hC hS3 hY3 hL2 (Nat.le_refl _) (Nat.le_refl _) fun H5 locs5 ls5 hS5 hY5 hL5 => ?_
    exact ln_leave hC hend hS5 fun t ht => ⟨1, D4, rfl, ⟨rfl, hJ⟩, by rw [ht]; exact hY5, hS5.F ht⟩
