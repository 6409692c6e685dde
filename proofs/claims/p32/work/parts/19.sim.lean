/-! caught by the caller; the whole of am_run -/
theorem ax_find {α : Type} {f : α → Bool} : ∀ {l : List α} {q : α}, l.find? f = some q → ∃ pre suf, l = pre ++ q :: suf ∧ (∀ z ∈ pre, f z = false) ∧ f q = true := by
  intro l
  induction l with
  | nil => intro q h; cases h
  | cons x l ih =>
    intro q h
    rw [List.find?_cons] at h
    cases hx : f x with
    | true => rw [hx] at h; cases h; exact ⟨[], l, rfl, fun _ hz => absurd hz List.not_mem_nil, hx⟩
    | false =>
      rw [hx] at h
      obtain ⟨pre, suf, rfl, h2, h3⟩ := ih h
      exact ⟨x :: pre, suf, rfl, fun z hz => (List.mem_cons.mp hz).elim (fun e => by rw [e]; exact hx) (h2 z), h3⟩
def ax_ci (E : Nat) : Nat := [16, 18, 99999].getD E 0
theorem ax_hrow_of {i : Nat} {q : Nat × Nat × Nat × Nat} (h : q ∈ am_hh i) : ax_hrow i q = true := by
  have hi : i < 107 := by
    rcases Nat.lt_or_ge i 107 with z | z
    · exact z
    · exfalso
      unfold am_hh at h
      rw [List.getD_eq_getElem?_getD, List.getElem?_eq_none (by rw [show am_hhs.length = 107 by decide +kernel]; exact z)] at h
      cases h
  exact List.all_eq_true.mp (List.all_eq_true.mp ax_hh_all i (List.mem_range.mpr hi)) _ h
/-- what a handler's row says -/
theorem ax_hnd {i pc E t k : Nat} (h : am_hnd i pc E = some (t, k)) : ∃ pre q suf, am_hh i = pre ++ q :: suf ∧ (∀ z ∈ pre, (decide (z.1 ≤ pc) && decide (pc < z.2.1) && decide (z.2.2.2 = ax_ci E)) = false) ∧ q.1 ≤ pc ∧ pc < q.2.1 ∧ q.2.2.2 = ax_ci E ∧ k < am_mL i ∧
    ((∃ kk : Fin 4, decode (am_b i) q.2.2.1 = .ok (.astore_n kk, 1) ∧ (kk : Nat) = k ∧ t = q.2.2.1 + 1) ∨ (decode (am_b i) q.2.2.1 = .ok (.astore k, 2) ∧ t = q.2.2.1 + 2)) := by
  unfold am_hnd at h
  split at h
  case h_2 => cases h
  next q hq =>
    obtain ⟨pre, suf, h1, h2, h3⟩ := ax_find hq
    simp only [Bool.and_eq_true, decide_eq_true_eq] at h3
    obtain ⟨⟨g1, g2⟩, g3⟩ := h3
    have hrow := ax_hrow_of (i := i) (q := q) (by rw [h1]; exact List.mem_append_right _ List.mem_cons_self)
    unfold ax_hrow at hrow
    simp only [Bool.and_eq_true, decide_eq_true_eq] at hrow
    obtain ⟨-, -, hrow⟩ := hrow
    refine ⟨pre, q, suf, h1, h2, g1, g2, g3, ?_⟩
    split at h
    next k0 l0 g0 a0 b0 hf =>
      cases h
      rw [hf] at hrow
      obtain ⟨hd, hc, -⟩ := am_row_of hf
      dsimp only at hd hc
      have hg : g0 = 1 := by
        match g0, hrow with
        | 0, hrow => exact absurd hrow Bool.false_ne_true
        | 1, _ => rfl
        | n + 2, hrow => exact absurd hrow Bool.false_ne_true
      subst hg
      have hk : (k0 : Nat) < am_mL i := of_decide_eq_true hrow
      obtain rfl : l0 = 1 := by simpa [am_chk] using hc
      exact ⟨hk, Or.inl ⟨k0, hd, rfl, rfl⟩⟩
    next k0 l0 g0 a0 b0 hf =>
      cases h
      rw [hf] at hrow
      obtain ⟨hd, hc, -⟩ := am_row_of hf
      dsimp only at hd hc
      have hg : g0 = 1 := by
        match g0, hrow with
        | 0, hrow => exact absurd hrow Bool.false_ne_true
        | 1, _ => rfl
        | n + 2, hrow => exact absurd hrow Bool.false_ne_true
      subst hg
      have hk : k < am_mL i := of_decide_eq_true hrow
      obtain rfl : l0 = 2 := by simpa [am_chk] using hc
      exact ⟨hk, Or.inr ⟨hd, rfl⟩⟩
    next => cases h
def ax_cls13 (z : Nat) : String := if z = 16 then "java/lang/IllegalArgumentException" else "java/lang/IllegalStateException"
set_option maxRecDepth 100000 in
theorem ax_cl_in : ∀ w ∈ [Cond.classLink RL 16 "java/lang/IllegalArgumentException", Cond.classLink RL 18 "java/lang/IllegalStateException"], w ∈ am_GW := am_GW_all (by decide +kernel)
theorem ax_cl_of {z : Nat} (h : z = 16 ∨ z = 18) : Cond.classLink RL z (ax_cls13 z) ∈ am_GW ∧ ax_cls13 z ∈ am_en.take 2 := by
  rcases h with rfl | rfl
  · exact ⟨ax_cl_in _ List.mem_cons_self, by decide +kernel⟩
  · exact ⟨ax_cl_in _ (List.mem_cons_of_mem _ List.mem_cons_self), by decide +kernel⟩
theorem ax_en_of {E : Nat} (h : E < 3) : am_ename E ∈ am_en ∧ (ax_ci E = 16 ∨ ax_ci E = 18 → ax_cls13 (ax_ci E) = am_ename E) := by
  match E, h with
  | 0, _ => exact ⟨by decide +kernel, fun _ => by decide +kernel⟩
  | 1, _ => exact ⟨by decide +kernel, fun _ => by decide +kernel⟩
  | 2, _ => exact ⟨by decide +kernel, fun h => absurd h (by decide)⟩
  | n + 3, h => exact absurd h (by omega)
theorem ax_en_ne {E z : Nat} (h : E < 3) (hz : z = 16 ∨ z = 18) (hne : ¬ z = ax_ci E) : am_ename E ≠ ax_cls13 z := by
  rcases hz with rfl | rfl
  · match E, h, hne with
    | 0, _, hne => exact absurd rfl hne
    | 1, _, _ => decide +kernel
    | 2, _, _ => decide +kernel
    | n + 3, h, _ => exact absurd h (by omega)
  · match E, h, hne with
    | 0, _, _ => decide +kernel
    | 1, _, hne => exact absurd rfl hne
    | 2, _, _ => decide +kernel
    | n + 3, h, _ => exact absurd h (by omega)
set_option maxRecDepth 100000 in
theorem ax_cast_in : ∀ w ∈ am_en.map (fun n => Cond.castable n n), w ∈ am_NW := fun w hw => by
  have h1 : (am_en.map (fun n => Cond.castable n n)).all (fun w => lw_tbl.any (fun z => decide (w = z)) && am_nestW w) = true := by decide +kernel
  have h2 := List.all_eq_true.mp h1 w hw
  simp only [Bool.and_eq_true, List.any_eq_true, decide_eq_true_eq] at h2
  obtain ⟨⟨z, hz, rfl⟩, h3⟩ := h2
  exact List.mem_filter.mpr ⟨hz, h3⟩
theorem ax_lh_none {ls' ls : Array Slot} {nL base b i : Nat} {L : am_LL} {v : Value} (hL : am_lh ls nL base b L) (hc : am_clear L i = true)
    (h : lv_has ls' nL ((i, v) :: (am_lv base b L).filter (fun q => !(q.1 == i) && !(q.1 + 1 == i && q.2.category == 2)))) : am_lh ls' nL base b (L.set i none) := by
  refine ⟨by rw [List.length_set]; exact hL.1, h.1, h.2.1, fun q hq => ?_⟩
  obtain ⟨w, h1, h2⟩ := am_lv_mem.mp hq
  by_cases hqi : q.1 = i
  · exfalso
    rw [hqi, List.getElem?_set] at h1
    simp only [if_true] at h1
    split at h1 <;> cases h1
  · rw [List.getElem?_set_ne (fun e => hqi e.symm)] at h1
    refine h.2.2 q (List.mem_cons.mpr (Or.inr (List.mem_filter.mpr ⟨am_lv_mem.mpr ⟨w, h1, h2⟩, ?_⟩)))
    have hcat : q.1 + 1 = i → q.2.category = 1 := fun e => by rw [h2, am_tr_cat]; exact am_clear_spec hc h1 e
    simp only [Bool.and_eq_true, Bool.not_eq_true', beq_eq_false_iff_ne, ne_eq, Bool.and_eq_false_iff]
    refine ⟨hqi, ?_⟩
    by_cases e : q.1 + 1 = i
    · right
      rw [hcat e]; decide
    · left; exact e
section AXM
variable {p : Program} {l : Launch} {e : Env} {R : Room} {s : State} {m : MethodId} {args : Array Value} {below : List Frame} {meth : Method} {c : Code} {H : Heap} {locs : List Loc} {cells slots : Nat} {Q : State → Prop}
variable {i pc base b E t k : Nat} {ls : Array Slot} {Dg : va_G} {cs : am_CS} {L : am_LL} {scr : Option Nat} {rest : List Value}
set_option maxHeartbeats 4000000 in
theorem ax_caught (hX : ax_ctx Dg cs base b scr p l R s m args meth c i) (hL : am_lh ls (am_mL i) base b L) (hE : E < 3) (hh : am_hnd i pc E = some (t, k)) (hcl : am_clear L k = true) {q9 : Addr} {ce : Cell} (hcell : H[q9]? = some ce) (hv : ce.vm = .none) (hfc : s.vm.findClass (am_ename E) = some ce.cls)
    (kk : ∀ ls' : Array Slot, am_lh ls' (am_mL i) base b (L.set k none) → W p l e R s m args below meth c H locs cells slots Q (F0 m t ls' [])) : vx_W p l e R s m args below meth c H locs cells slots Q (F0 m pc ls rest) q9 := by
  obtain ⟨pre, q, suf, h1, h2, h3, h4, h5, h6, h7⟩ := ax_hnd hh
  obtain ⟨hx, hb, -, hown, hts, ⟨-, hN, -, -, -, -, hnc⟩, -, -, -, -, -, htab, -⟩ := id hX
  have hq : q ∈ am_hh i := by rw [h1]; exact List.mem_append_right _ List.mem_cons_self
  have hrow : ∀ z ∈ am_hh i, (z.2.2.2 = 16 ∨ z.2.2.2 = 18) ∧ am_own i = RL := fun z hz => by
    have := ax_hrow_of hz
    unfold ax_hrow at this
    simp only [Bool.and_eq_true, decide_eq_true_eq] at this
    exact ⟨this.1, this.2.1⟩
  rw [(hrow q hq).2] at hown
  obtain ⟨e1, e2⟩ := ax_en_of hE
  have e2 := e2 (by rw [← h5]; exact (hrow q hq).1)
  have hcw := (ax_cl_of (hrow q hq).1).1
  rw [h5, e2] at hcw
  refine vx_catch (own := RL) (name := am_ename E) (E := am_ename E) hown (tableOf pre) ⟨q.1, q.2.1, q.2.2.1, q.2.2.2⟩ (tableOf suf) (by rw [htab, h1]; unfold tableOf; rw [List.map_append, List.map_cons]) ?_ ?_ ?_ ?_ ?_ hcell hv hfc ?_
  · intro z hz
    obtain ⟨z0, hz0, rfl⟩ := List.mem_map.mp hz
    have g1 := h2 z0 hz0
    have g2 := (hrow z0 (by rw [h1]; exact List.mem_append_left _ hz0)).1
    by_cases hcv : covers ⟨z0.1, z0.2.1, z0.2.2.1, z0.2.2.2⟩ pc = false
    · exact Or.inl hcv
    · refine Or.inr ⟨by rcases g2 with g | g <;> (show z0.2.2.2 ≠ 0) <;> omega, ax_cls13 z0.2.2.2, hts _ (ax_cl_of g2).1, hnc _ e1 _ (ax_cl_of g2).2 (ax_en_ne hE g2 fun hne => ?_)⟩
      have hcv2 : (decide (z0.1 ≤ pc) && decide (pc < z0.2.1)) = true := by
        cases hq2 : (decide (z0.1 ≤ pc) && decide (pc < z0.2.1)) with
        | true => rfl
        | false => exact absurd hq2 hcv
      rw [hcv2, decide_eq_true hne] at g1
      cases g1
  · show (decide (q.1 ≤ pc) && decide (pc < q.2.1)) = true
    rw [decide_eq_true h3, decide_eq_true h4]; rfl
  · show q.2.2.2 ≠ 0
    rcases (hrow q hq).1 with g | g <;> omega
  · show (Cond.classLink RL q.2.2.2 (am_ename E)).before args s = true
    rw [h5]
    exact hts _ hcw
  · exact va_Nw.use rfl (hN _ (ax_cast_in _ (List.mem_map.mpr ⟨_, e1, rfl⟩)))
  · show W p l e R s m args below meth c H locs cells slots Q (F0 m q.2.2.1 ls [.ref q9])
    rcases h7 with ⟨k0, hd, hk0, rfl⟩ | ⟨hd, rfl⟩
    · exact lv_astore_n hx hb hd hk0 hL.2 h6 rfl fun ls' h' => kk ls' (ax_lh_none hL hcl h')
    · exact lv_astore hx hb hd hL.2 h6 rfl fun ls' h' => kk ls' (ax_lh_none hL hcl h')
variable {len g a b0 pc' c2 s2 : Nat} {ins : Instr} {L' : am_LL} {S S' : List Value} {SK SK' : List am_SC} {D D' : am_DD} {al : Bool}
set_option maxHeartbeats 4000000 in
theorem ax_step (hX : ax_ctx Dg cs base b scr p l R s m args meth c i) (hS : va_S (fun q => base ≤ q) s.heap H locs) (hY : am_dyn al scr Dg base b cs SK D H) (hL : am_lh ls (am_mL i) base b L) (hf : am_fetch i pc = some (ins, len, g, a, b0)) (hst : am_step al scr ins len g a b0 pc L S SK D = some (pc', L', S', SK', D', c2, s2))
    (hc : cells + c2 ≤ R.cells) (hs : slots + s2 ≤ R.slots)
    (kk : ∀ (H' : Heap) (locs' : List Loc) (ls' : Array Slot), va_S (fun q => base ≤ q) s.heap H' locs' → am_dyn al scr Dg base b cs SK' D' H' → am_lh ls' (am_mL i) base b L' → W p l e R s m args below meth c H' locs' (cells + c2) (slots + s2) Q (F0 m pc' ls' (S'.map (am_tr base b)))) : W p l e R s m args below meth c H locs cells slots Q (F0 m pc ls (S.map (am_tr base b))) := by
  obtain ⟨hd, hchk, hw1, hw2⟩ := am_row_of hf
  obtain ⟨hx, hb, hml, hown, hts, ⟨hK, hN, hAO, -⟩, hmn, hfr, hlo, hscr, -⟩ := id hX
  dsimp only at hd hchk hw1 hw2
  unfold am_step at hst
  split at hst
  · split at hst
    next z hz => cases hst; exact am_sim_stk hx hb hd hchk hz (kk H locs ls hS hY hL)
    next => cases hst
  · split at hst
    next z1 z2 hz => cases hst; exact am_sim_loc hx hb hd hchk hL hz (fun ls' h' => kk H locs ls' hS hY h')
    next => cases hst
  · split at hst
    next z1 z2 hz => cases hst; exact am_sim_br hx hb hd hchk hz (kk H locs ls hS hY hL)
    next => cases hst
  · split at hst
    next z hz => cases hst; exact am_sim_rd hx hb hown hts hK hN hY.2.2.2 hS hY.1 hd hchk hw1 hw2 hz (kk H locs ls hS hY hL)
    next => cases hst
  · split at hst
    next z1 z2 z3 hz => cases hst; exact am_sim_wr hx hb hown hts hK hN hmn hS hY hd hchk hw1 hw2 hz (fun H' locs' h1 h2 => kk H' locs' ls h1 h2 hL)
    next => cases hst
  · split at hst
    next z1 z2 z3 hz => cases hst; exact am_sim_nw hx hb hown hts hK hAO hS hY hd hchk hw1 hz hc hs (fun H' h1 h2 => kk H' locs ls h1 h2 hL)
    next => cases hst
  · split at hst
    next z1 z2 hz => cases hst; exact am_sim_lib hx hb (hml.trans hL.2.1.symm) hown hts hK hfr hlo hc hs hS hY hd hchk hw1 hz (fun H' locs' h1 h2 => kk H' locs' ls h1 h2 hL)
    next => cases hst
  · cases hst
end AXM
theorem ax_ans {a : Nat} {r : am_R} {v : Option Value} (h : am_end a r = some (.inl v)) (base b : Nat) : v.toList.map (am_tr base b) = v.toList := by
  unfold am_end at h
  split at h
  next =>
    split at h
    next => split at h <;> cases h
    next =>
      split at h
      next =>
        split at h
        · split at h
          · split at h
            · cases h; rfl
            · cases h
          · cases h
        · split at h
          · cases h; rfl
          · cases h
        · split at h
          · cases h; rfl
          · cases h
        · cases h
      next => cases h
  next => cases h
set_option maxHeartbeats 4000000 in
theorem ax_sim : ∀ n, ax_SIM n := by
  intro n
  induction n with
  | zero => intro al scr i pc L S SK D r SK' D' c1 s1 h; cases h
  | succ n ih =>
    intro al scr i pc L S SK D r SK' D' c1 s1 h p l e R s m args below meth c H locs cells slots Q Dg cs base b ls hX hS hY hL hc1 hs1 kk
    rw [am_run] at h
    split at h
    case h_1 => cases h
    next ins len g a b0 hf =>
      split at h
      next => cases h; exact kk H locs ls hS hY hL
      next =>
        split at h
        next hg =>
          subst hg
          split at h
          next => cases h
          next As S1 hA =>
            obtain ⟨-, hlen, -, hcat, hmax⟩ := ax_args hA
            split at h
            next => cases h
            next hrc0 =>
              have hrc : am_rcv ins a As SK = true := by
                cases hq : am_rcv ins a As SK with
                | true => rfl
                | false => exact absurd hq hrc0
              split at h
              next => cases h
              next r1 SK1 D1 c2 s2 hcall =>
                have hl : l.stackTraces = false := hX.2.2.2.2.2.2.2.2.2.2.1
                split at h
                next => cases h
                next v hend =>
                  split at h
                  next => cases h
                  next r2 SK2 D2 c3 s3 hcont =>
                    cases h
                    have ha : a < 107 := by
                      unfold am_end at hend
                      split at hend
                      next hf2 => exact ax_ct_lt (am_fetch_mem hf2)
                      next => cases hend
                    have hM := ax_ret ih hcall hend hcat hmax ha hl (Dg := Dg) (base := base) (b := b) (cs := cs)
                    refine ax_callR (ax_goR hX hS hY hL.2.1 hf hA hrc hM (by omega) (by omega)) hS fun H1 locs1 hS1 hY1 => ?_
                    rw [← ax_ans hend base b, ← List.map_append]
                    refine ih _ _ _ _ _ _ _ _ _ _ _ _ _ hcont p l e R s m args below meth c H1 locs1 _ _ Q Dg cs base b ls hX hS1 hY1 hL (by omega) (by omega) fun H' locs' ls' g1 g2 g3 => ?_
                    have k9 := kk H' locs' ls' g1 g2 g3
                    rw [← Nat.add_assoc, ← Nat.add_assoc] at k9
                    exact k9
                next E hend =>
                  split at h
                  next => cases h
                  next hal =>
                    have hal : al = false := by
                      cases al
                      · rfl
                      · exact absurd rfl hal
                    subst hal
                    split at h
                    next => cases h
                    next t k hh =>
                      split at h
                      next => cases h
                      next hcl0 =>
                        have hcl : am_clear L k = true := by
                          cases hq : am_clear L k with
                          | true => rfl
                          | false => exact absurd hq hcl0
                        split at h
                        next => cases h
                        next r2 SK2 D2 c3 s3 hcont =>
                          cases h
                          have ha : a < 107 := by
                            unfold am_end at hend
                            split at hend
                            next hf2 => exact ax_ct_lt (am_fetch_mem hf2)
                            next => cases hend
                          obtain ⟨hE3, h9, hM⟩ := ax_thw ih hcall hend hcat hmax ha hl (Dg := Dg) (base := base) (b := b) (cs := cs)
                          refine ax_callX (ax_goX hX hS hY hL.2.1 hf hA hrc h9 hM (by omega) (by omega)) hS fun H1 locs1 q9 ce hS1 hY1 hcell hcv hfc => ?_
                          refine ax_caught hX hL hE3 hh hcl hcell hcv hfc fun ls' hL1 => ?_
                          refine ih _ _ _ _ _ [] _ _ _ _ _ _ _ hcont p l e R s m args below meth c H1 locs1 _ _ Q Dg cs base b ls' hX hS1 hY1 hL1 (by omega) (by omega) fun H' locs' ls2 g1 g2 g3 => ?_
                          have k9 := kk H' locs' ls2 g1 g2 g3
                          have q1 : cells + (c2 + 1) + c3 = cells + (c2 + 1 + c3) := by omega
                          have q2 : slots + (s2 + 6) + s3 = slots + (s2 + 6 + s3) := by omega
                          rw [q1, q2]
                          exact k9
        next =>
          split at h
          next => cases h
          next pc' L' S' SK1 D1 c2 s2 hst =>
            split at h
            next => cases h
            next r2 SK2 D2 c3 s3 hcont =>
              cases h
              refine ax_step hX hS hY hL hf hst (by omega) (by omega) fun H1 locs1 ls1 hS1 hY1 hL1 => ?_
              refine ih _ _ _ _ _ _ _ _ _ _ _ _ _ hcont p l e R s m args below meth c H1 locs1 _ _ Q Dg cs base b ls1 hX hS1 hY1 hL1 (by omega) (by omega) fun H' locs' ls2 g1 g2 g3 => ?_
              have k9 := kk H' locs' ls2 g1 g2 g3
              rw [← Nat.add_assoc, ← Nat.add_assoc] at k9
              exact k9
