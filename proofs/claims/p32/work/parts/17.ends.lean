/-! a method that returns, a method that throws: contracts out of a run -/
theorem ax_len8 {a pc : Nat} {ins : Instr} {len a0 b0 : Nat} (h : am_fetch a pc = some (ins, len, 8, a0, b0)) : len = 1 := by
  have h1 := ax_thr_of h
  cases ins <;> first | (exact beq_iff_eq.mp h1) | (simp [ax_thr] at h1; exact h1)
set_option maxHeartbeats 4000000 in
theorem ax_ret {n : Nat} (hsim : ax_SIM n) {al : Bool} {scr : Option Nat} {a : Nat} {As : List Value} {SK SK1 : List am_SC} {D D1 : am_DD} {r : am_R} {c1 s1 : Nat} {v : Option Value} (hrun : am_run al n scr a 0 (am_L0 a As) [] SK D = some (r, SK1, D1, c1, s1)) (hend : am_end a r = some (.inl v))
    (hc : ∀ v ∈ As, v.category = 1) (hlen : As.length ≤ am_mL a) (ha : a < 107) {l : Launch} (hl : l.stackTraces = false) {Dg : va_G} {base b : Nat} {cs : am_CS} :
    Met l (am_y a) (ax_ws a) { frames := am_fr a, cells := c1, slots := s1, locals := am_lo a } (ax_Pc al scr Dg base b cs SK D As) (ax_Qc al scr Dg base b cs SK1 D1 v) c1 s1 (fun q => base ≤ q) := by
  refine ax_met_of (ax_ofW ha ?_)
  intro p e s m args below meth c s₁ B hml hv
  obtain ⟨rfl, hE, hY⟩ := hv
  obtain ⟨ls, he, hL⟩ := ax_entry (base := base) (b := b) hc hlen m
  rw [he]
  have hX := ax_ctx_of (scr := scr) (b := b) hl B hml hE (Nat.le_refl _) (Nat.le_refl _)
  refine hsim al scr a 0 _ [] SK D r SK1 D1 c1 s1 hrun p l e _ s m _ below meth c s.heap [] 0 0 _ Dg cs base b ls hX va_S.rf hY hL (by rw [Nat.zero_add]; exact Nat.le_refl _) (by rw [Nat.zero_add]; exact Nat.le_refl _) ?_
  intro H' locs' ls' hS' hY' hL'
  rw [Nat.zero_add, Nat.zero_add]
  refine vx_ret ?_
  obtain ⟨pc', L', S'⟩ := r
  have hx := hX.1
  have hb := hX.2.1
  have hlocks : meth.locks = false := B.notSynchronized
  have hr := B.returns
  unfold am_end at hend
  dsimp only at hend hL' ⊢
  split at hend
  next ins len g a0 b0 hf =>
    obtain ⟨hd, -⟩ := am_row_of hf
    dsimp only at hd
    split at hend
    next => split at hend <;> cases hend
    next =>
      split at hend
      next hg =>
        subst hg
        obtain rfl := ax_len8 hf
        split at hend
        next x =>
          split at hend
          next ty hty =>
            split at hend
            next hn =>
              cases hend
              exact W.zret hx hb (hr.trans hty) hn (fun t ht hW => ⟨rfl, by rw [ht]; exact hY', hS'.F ht⟩) hS'.2.2 hd (hlocks := hlocks)
            next => cases hend
          next => cases hend
        next x =>
          split at hend
          next hty =>
            cases hend
            exact W.fret hx hb (hr.trans hty) (fun t ht hW => ⟨rfl, by rw [ht]; exact hY', hS'.F ht⟩) hS'.2.2 hd (hlocks := hlocks)
          next => cases hend
        next =>
          split at hend
          next hty =>
            cases hend
            exact W.vret hx hb (hr.trans hty) (fun t ht hW => ⟨rfl, by rw [ht]; exact hY', hS'.F ht⟩) hS'.2.2 hd (hlocks := hlocks)
          next => cases hend
        next => cases hend
      next => cases hend
  next => cases hend
theorem ax_fit {E : Nat} (h : E < 3) : Bundle.fit (am_ename E) = true := by
  match E, h with
  | 0, _ => decide +kernel
  | 1, _ => decide +kernel
  | 2, _ => decide +kernel
  | n + 3, h => exact absurd h (by omega)
theorem ax_fits : ∀ n ∈ am_up2, Bundle.fit n = true := by decide +kernel
/-- am_dyn, when new cells alone have come, and nothing may be made any more -/
theorem ax_dyn_kept {scr : Option Nat} {Dg : va_G} {base b : Nat} {cs : am_CS} {SK : List am_SC} {D : am_DD} {H H1 : Heap} (hY : am_dyn false scr Dg base b cs SK D H) (hz : H.size ≤ H1.size) (hq : ∀ q : Nat, q < H.size → H1[q]? = H[q]?) : am_dyn false scr Dg base b cs SK D H1 :=
  ⟨fun k sc hk => (hY.1 k sc hk).kept (hq _ (hY.1 k sc hk).lt), Nat.le_trans hY.2.1 hz, (fun h => by cases h), fun n hs => by
    obtain ⟨g1, g2, g3⟩ := hY.2.2.2 n hs
    exact ⟨g1.kept (hq _ (Array.getElem?_eq_some_iff.mp (show H[b]? = some _ from g1)).1), g2, g3⟩⟩
set_option maxHeartbeats 4000000 in
theorem ax_thw {n : Nat} (hsim : ax_SIM n) {scr : Option Nat} {a : Nat} {As : List Value} {SK SK1 : List am_SC} {D D1 : am_DD} {r : am_R} {c1 s1 E : Nat} (hrun : am_run false n scr a 0 (am_L0 a As) [] SK D = some (r, SK1, D1, c1, s1)) (hend : am_end a r = some (.inr E))
    (hc : ∀ v ∈ As, v.category = 1) (hlen : As.length ≤ am_mL a) (ha : a < 107) {l : Launch} (hl : l.stackTraces = false) {Dg : va_G} {base b : Nat} {cs : am_CS} :
    E < 3 ∧ (∃ pc ins len b0, am_fetch a pc = some (ins, len, 9, E, b0)) ∧ vx_Met l (am_y a) (ax_ws a) { frames := am_fr a, cells := c1 + 1, slots := s1 + 6, locals := am_lo a } (ax_Pc false scr Dg base b cs SK D As) (fun _ _ _ _ => False) (ax_XC false scr Dg base b cs SK1 D1 E) (c1 + 1) (s1 + 6) (fun q => base ≤ q) := by
  obtain ⟨pc', L', S'⟩ := r
  unfold am_end at hend
  dsimp only at hend
  split at hend
  case h_2 => cases hend
  next ins len g a0 b0 hf =>
    split at hend
    case isFalse => split at hend
                    case isFalse => cases hend
                    case isTrue => split at hend
                                   · split at hend
                                     · split at hend <;> cases hend
                                     · cases hend
                                   · split at hend <;> cases hend
                                   · split at hend <;> cases hend
                                   · cases hend
    case isTrue hg =>
      subst hg
      split at hend
      case isFalse => cases hend
      case isTrue h8 =>
        cases hend
        obtain ⟨hd, -, hw1, -⟩ := am_row_of hf
        have ht := ax_thr_of hf
        obtain ⟨ik, rfl⟩ : ∃ ik, ins = .new ik := by
          cases ins <;> first | exact ⟨_, rfl⟩ | (exfalso; exact Bool.false_ne_true ht)
        simp only [ax_thr, Bool.and_eq_true, decide_eq_true_eq, List.any_eq_true, Bool.or_eq_true] at ht
        obtain ⟨hE3, d0, d3, ⟨tx, htx, ht⟩, hown10, hh0, hfr, hlo⟩ := ht
        refine ⟨hE3, ⟨_, _, _, _, hf⟩, ax_ofW ha ?_⟩
        intro p e s m args below meth c s₁ B hml hv
        obtain ⟨rfl, hE, hY⟩ := hv
        obtain ⟨ls, he, hL⟩ := ax_entry (base := base) (b := b) hc hlen m
        rw [he]
        have hX := ax_ctx_of (scr := scr) (b := b) hl B hml hE (Nat.le_refl _) (Nat.le_refl _)
        refine hsim false scr a 0 _ [] SK D (pc', L', S') SK1 D1 c1 s1 hrun p l e _ s m _ below meth c s.heap [] 0 0 _ Dg cs base b ls hX va_S.rf hY hL (by rw [Nat.zero_add]; exact Nat.le_succ _) (by rw [Nat.zero_add]; exact Nat.le_add_right _ _) ?_
        intro H' locs' ls' hS' hY' hL'
        rw [Nat.zero_add, Nat.zero_add]
        dsimp only
        obtain ⟨hx, hb, -, hown, hts, hE, -⟩ := id hX
        obtain ⟨e1, e2, e3, e4, e5, e6, e7⟩ := id hE
        rw [hown10] at hown
        obtain ⟨sa, hsa⟩ := e4 tx htx
        have hlk : Cond.classLink RX10 ik (am_ename E) ∈ am_GW := hw1 _ (by rw [← hown10]; exact List.mem_cons_self)
        have hin : Cond.initialized (am_ename E) ∈ am_GW := hw1 _ (List.mem_cons_of_mem _ List.mem_cons_self)
        have hat : ∀ w ∈ vx_atS RX10 (am_ic E) (am_ename E) am_up2, w.before (List.map (am_tr base b) As).toArray s = true := fun w hw => by
          rcases ax_xw_in hE3 hw with h | h
          · exact hts w h
          · exact va_Nw.use (ax_nest_tab (List.mem_filter.mp h).2) (e2 w h)
        have hgood : ∀ w ∈ Cond.classLink RX10 ik (am_ename E) :: Cond.initialized (am_ename E) :: vx_atS RX10 (am_ic E) (am_ename E) am_up2, vx_ot w = true := fun w hw => by
          rcases List.mem_cons.mp hw with h | h
          · rw [h]; exact ax_good_ot (Or.inl (List.mem_filter.mp hlk).2)
          · rcases List.mem_cons.mp h with h | h
            · rw [h]; exact ax_good_ot (Or.inl (List.mem_filter.mp hin).2)
            · rcases ax_xw_in hE3 h with h | h
              · exact ax_good_ot (Or.inl (List.mem_filter.mp h).2)
              · exact ax_good_ot (Or.inr (List.mem_filter.mp h).2)
        have hout : ∀ (k : Nat), ∀ x ∈ c.exceptionTable.toList, covers x k = false := fun k x hx => by
          rw [ax_tbl B, hh0] at hx
          cases hx
        have hx9 : ∀ t : State, s.vm.Alike t.vm → H'.size ≤ t.heap.size → (∀ q : Nat, q < H'.size → t.heap[q]? = H'[q]?) → ax_XC false scr Dg base b cs SK1 D1 E (am_ename E) s t := fun t _ h1 h2 =>
          ⟨rfl, ax_dyn_kept hY' h1 h2, Nat.le_trans hS'.1 h1, fun q g1 g2 => (h2 q (Nat.lt_of_lt_of_le g1 hS'.1)).trans (hS'.2.1 q g1 g2)⟩
        have hloc : ((S'.map (am_tr base b)).map fun v => v.category).sum + (13 * (am_up2.length + 1) + 43) ≤ am_lo a := by
          rw [am_words_map, show am_up2.length = 2 from rfl]
          omega
        have hfra : am_up2.length + 3 < am_fr a := by rw [show am_up2.length = 2 from rfl]; omega
        rcases ht with ht | ht
        · simp only [ax_t1, Bool.and_eq_true, decide_eq_true_eq] at ht
          exact vx_throwS hx hb hl hown (ax_fit hE3) ax_fits (hts _ hlk) (hts _ hin) hsa hat hgood e5 e6 hS' (hL'.2.1.trans hml.symm) d0 d3 ht.1 ht.2.1 ht.2.2 (hout _) hfra hloc (Nat.le_refl _) (Nat.le_refl _) B.notSynchronized hx9 hS'.2.2 (Nat.le_refl _) (Nat.le_refl _)
        · simp only [ax_t2, Bool.and_eq_true, decide_eq_true_eq] at ht
          exact vx_throwSW hx hb hl hown (ax_fit hE3) ax_fits (hts _ hlk) (hts _ hin) hsa hat hgood e5 e6 hS' (hL'.2.1.trans hml.symm) d0 d3 ht.1 ht.2.1 ht.2.2 (hout _) hfra hloc (Nat.le_refl _) (Nat.le_refl _) B.notSynchronized hx9 hS'.2.2 (Nat.le_refl _) (Nat.le_refl _)
