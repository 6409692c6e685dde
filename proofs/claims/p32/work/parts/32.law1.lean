/-! the law's own methods by contract: cell, letsOut, act -/
/-- before: the class's cells by I; after: an int and the cells by J -/
def ln_P (Dg : va_G) (base b : Nat) (cs : am_CS) (X : State → Prop) (I : am_DD → Prop) (As : List Value) : Array Value → State → Prop := va_Pc (As.map (am_tr base b)) (fun U => ax_env Dg cs base U ∧ X U ∧ ∃ D, I D ∧ am_dyn false none Dg base b cs ay_SK D U.heap)
def ln_Q (Dg : va_G) (base b : Nat) (cs : am_CS) (J : Int32 → am_DD → Prop) : Array Value → State → Outcome → State → Prop := fun _ st o t => ∃ v D, o = .returned (some (.int v)) ∧ J v D ∧ am_dyn false none Dg base b cs ay_SK D t.heap ∧ va_F (fun q => base ≤ q) st t
def ln_X (b base n : Nat) (xs : Nat → Int32) (U : State) : Prop := va_X b n xs U U.heap ∧ b < U.heap.size ∧ b < base
theorem ln_blind {Dg : va_G} {base b : Nat} {cs : am_CS} {X : State → Prop} {I : am_DD → Prop} {As : List Value} (hX : ∀ (a : Array Value) (U : State) (g : JFrame) (mk : MethodId), X U → X (U.calling g mk a)) : FrameBlind (ln_P Dg base b cs X I As) := fun a U g mk h => ⟨h.1, ax_env.moved (u := U) (State.WarmedH.refl U) (fun _ _ _ => rfl) h.2.1, hX a U g mk h.2.2.1, h.2.2.2⟩
theorem ln_blindX {b base n : Nat} {xs : Nat → Int32} : ∀ (a : Array Value) (U : State) (g : JFrame) (mk : MethodId), ln_X b base n xs U → ln_X b base n xs (U.calling g mk a) := fun _ _ _ _ h => h
section LNA
variable {p : Program} {l : Launch} {e : Env} {R : Room} {s : State} {m : MethodId} {args : Array Value} {below : List Frame} {meth : Method} {c : Code} {H : Heap} {locs : List Loc} {cells slots : Nat} {Q : State → Prop}
variable {i pc len a b0 mc ms base b : Nat} {ins : Instr} {ls : Array Slot} {Dg : va_G} {cs : am_CS} {scr : Option Nat} {As S1 : List Value} {v : Option Value} {Pc : Array Value → State → Prop} {Qc : Array Value → State → Outcome → State → Prop}
set_option maxHeartbeats 4000000 in
/-- a frame's end -/
theorem ln_leave {r : am_R} (hX : ax_ctx Dg cs base b scr p l R s m args meth c i) (hend : am_end i r = some (.inl v)) (hS : va_S (fun q => base ≤ q) s.heap H locs) (hQ : ∀ t : State, t.heap = H → Qc args s (.returned v) t) : W p l e R s m args below meth c H locs cells slots (MQ below Qc args s cells slots (fun q => base ≤ q)) (F0 m r.1 ls (r.2.2.map (am_tr base b))) := by
  obtain ⟨pc', L', S'⟩ := r
  obtain ⟨hx, hb, -, -, -, -, -, -, -, -, -, -, hlocks, hr⟩ := id hX
  unfold am_end at hend
  dsimp only at hend ⊢
  split at hend
  next ins len g a0 b0 hf =>
    obtain ⟨hd, -⟩ := am_row_of hf
    dsimp only at hd
    split at hend
    next => split at hend <;> cases hend
    next =>
      split at hend
      next hg =>
        subst hg
        obtain rfl := ax_len8 hf
        split at hend
        next x =>
          split at hend
          next ty hty =>
            split at hend
            next hn =>
              cases hend
              exact W.zret hx hb (hr.trans hty) hn (fun t ht hW => hQ t ht) hS.2.2 hd (hlocks := hlocks)
            next => cases hend
          next => cases hend
        next x =>
          split at hend
          next hty =>
            cases hend
            exact W.fret hx hb (hr.trans hty) (fun t ht hW => hQ t ht) hS.2.2 hd (hlocks := hlocks)
          next => cases hend
        next =>
          split at hend
          next hty =>
            cases hend
            exact W.vret hx hb (hr.trans hty) (fun t ht hW => hQ t ht) hS.2.2 hd (hlocks := hlocks)
          next => cases hend
        next => cases hend
      next => cases hend
  next => cases hend
set_option maxHeartbeats 4000000 in
/-- a call that am_run does not make -/
theorem ln_go12 (hX : ax_ctx Dg cs base b scr p l R s m args meth c i) (hls : ls.size = am_mL i) (hf : am_fetch i pc = some (ins, len, 12, a, b0)) (hn : As.length = am_np a) (hwd : am_words S1 ≤ 8)
    (hM : Met l (am_y a) (ax_ws a) { frames := am_fr a, cells := mc, slots := ms, locals := am_lo a } Pc Qc mc ms (fun q => base ≤ q)) (hbl : FrameBlind Pc) (hpre : ∀ U : State, U.heap = H → s.WarmedH U.vm → Pc (As.map (am_tr base b)).toArray U) (hc1 : cells + mc ≤ R.cells) (hs1 : slots + ms ≤ R.slots) :
    va_Run p l e R s m args below meth c H locs cells slots mc ms (F0 m pc ls ((As.reverse ++ S1).map (am_tr base b))) (S1.map (am_tr base b)) (Qc (As.map (am_tr base b)).toArray) (fun q => base ≤ q) := by
  obtain ⟨hd, hchk, hw1, -⟩ := am_row_of hf
  obtain ⟨hx, hb, hml, hown, hts, hE, -⟩ := id hX
  have hrm : ∀ st : List Value, 2 * (F0 m pc ls st).monitorRoom + ((S1.map (am_tr base b)).map fun v => v.category).sum ≤ 8 := fun st => lv_room (by rw [am_words_map]; exact hwd)
  have hmap : (As.reverse ++ S1).map (am_tr base b) = (As.map (am_tr base b)).reverse ++ S1.map (am_tr base b) := by rw [List.map_append, List.map_reverse]
  dsimp only at hd hchk hw1
  cases ins <;> first | (exfalso; exact Bool.false_ne_true hchk) | skip
  case invokestatic idx =>
    simp only [am_chk, Bool.and_eq_true, beq_iff_eq, decide_eq_true_eq] at hchk
    obtain ⟨⟨⟨⟨⟨⟨rfl, g1⟩, g2⟩, g3⟩, g4⟩, g5⟩, g6⟩ := hchk
    have hwl : ∀ w ∈ am_word i (pc, Instr.invokestatic idx, 3, 12, a, b0), w ∈ am_GW := hw1
    have u1 : Cond.methodLink (am_own i) idx (am_y a) ∈ am_GW := hwl _ (by simp [am_word])
    have u2 : Cond.static (am_y a) ∈ am_GW := hwl _ (by simp [am_word])
    have u4 : Cond.initialized (am_own a) ∈ am_GW := hwl _ (by simp [am_word])
    have u5 : am_code a ∈ am_GW := am_cw_in fun w hw => hwl _ (by simp [am_word, hw])
    have hnn := ax_plen (k := 0) (z := As.length) (by simpa using g5) hn
    exact va_runS (As := As.map (am_tr base b)) (rest := S1.map (am_tr base b)) ⟨hx, hb, hml, hown, hts⟩ hM ⟨ax_cb (n := As.length) hX g6 g1 g2 g3 g4 hnn u5 u4 u1, hts _ u2⟩ ⟨hbl, hpre⟩ rfl (by simp) hls hmap (hrm _) hd ⟨hc1, hs1⟩
variable {st0 rest : List Value} {aa : Array Value} {J : Int32 → am_DD → Prop}
theorem ln_back (hr : va_Run p l e R s m args below meth c H locs cells slots mc ms (F0 m pc ls st0) rest (ln_Q Dg base b cs J aa) (fun q => base ≤ q)) (hS : va_S (fun q => base ≤ q) s.heap H locs)
    (kk : ∀ (H1 : Heap) (locs1 : List Loc) (v : Int32) (D : am_DD), va_S (fun q => base ≤ q) s.heap H1 locs1 → J v D → am_dyn false none Dg base b cs ay_SK D H1 → W p l e R s m args below meth c H1 locs1 (cells + mc) (slots + ms) Q (F0 m (pc + 3) ls (.int v :: rest))) : W p l e R s m args below meth c H locs cells slots Q (F0 m pc ls st0) := by
  intro T hT X
  obtain ⟨v', st₀, t, T', L, h0, X', hL, e1, e2, ⟨v, D, hv, hJ, hY, hF⟩, st⟩ := hr T hT X
  cases hv
  obtain ⟨k1, k2, k3⟩ := vx_keep (A0 := fun q => base ≤ q) (A1 := fun q => base ≤ q) h0 e1 hS (fun _ _ h => h) (fun _ h => h) hL hF
  obtain ⟨t2, a1, b1⟩ := kk T'.heap (locs ++ L) v D k3 hJ (by rw [e1]; exact hY) T' rfl X'
  exact ⟨t2, st t2 a1, b1⟩
end LNA
/-! cell -/
set_option maxHeartbeats 4000000 in
theorem ln_cell {l : Launch} (hl : l.stackTraces = false) {Dg : va_G} {base b n : Nat} {cs : am_CS} {xs : Nat → Int32} {k : Int32} {D : am_DD} (hn : n < 2 ^ 31) (hk : ¬ k < 0) :
    Met l (am_y 69) (ax_ws 69) { frames := am_fr 69, cells := 0, slots := 0, locals := am_lo 69 } (ln_P Dg base b cs (ln_X b base n xs) (fun D' => D' = D) [.ref am_scr, .int k]) (ln_Q Dg base b cs (fun _ D' => D' = D)) 0 0 (fun q => base ≤ q) := by
  refine ax_met_of (ax_ofW (by decide) ?_)
  intro p e s m args below meth c s₁ B hml hv
  obtain ⟨rfl, hE, ⟨hXa, hbl, hbb⟩, D', rfl, hY⟩ := hv
  obtain ⟨ls, he, hL⟩ := ax_entry (a := 69) (base := base) (b := b) (As := [.ref am_scr, .int k]) (fun v hv => by
    rcases List.mem_cons.mp hv with h | h
    · rw [h]; rfl
    · rw [List.mem_singleton.mp h]; rfl) (show 2 ≤ am_mL 69 by decide +kernel) m
  rw [he]
  have hC := ax_ctx_of (scr := none) (b := b) hl B hml hE (Nat.le_refl _) (Nat.le_refl _)
  refine vx_ret ?_
  obtain ⟨hx, hb, -, hown, hts, -, -, -, -, -, -, -, hlocks, hret⟩ := id hC
  have l0 : ls[0]? = some (.val (.ref b)) := by
    rw [am_lh_at hL (j := 0) (v := .ref am_scr) rfl]
    show some (Slot.val (Value.ref (am_ad base b am_scr))) = _
    rw [show am_ad base b am_scr = b from if_pos rfl]
  have l1 : ls[1]? = some (.val (.int k)) := am_lh_at hL (j := 1) (v := .int k) rfl
  have hr1 : meth.sig.returnType = some .int := hret.trans rfl
  have hw1 : (Cond.constant (am_own 69) 7 (Int32.ofNat 835049959)).before (List.map (am_tr base b) [.ref am_scr, .int k]).toArray s = true := hts _ ((am_row_of fe_69_12).2.2.1 _ (by simp [am_word]))
  have hw2 : (Cond.constant (am_own 69) 8 (Int32.ofNat 783524345)).before (List.map (am_tr base b) [.ref am_scr, .int k]).toArray s = true := hts _ ((am_row_of fe_69_18).2.2.1 _ (by simp [am_word]))
  refine lv_iload_n hx hb (am_row_of fe_69_0).1 rfl l1 ?_
  refine lv_aload_n hx hb (am_row_of fe_69_1).1 rfl l0 ?_
  refine va_slen hx hb hXa hbl (A := fun q => base ≤ q) (Nat.not_le.mpr hbb) va_S.rf (am_row_of fe_69_2).1 ?_
  refine lv_icmp_ge (tgt := 12) hx hb (am_row_of fe_69_3).1 (by decide) (fun q => ?_) (fun q => ?_)
  · refine lv_ldc hx hb hown hw1 (am_row_of fe_69_12).1 ?_
    refine lv_iload_n hx hb (am_row_of fe_69_14).1 rfl l1 ?_
    refine lv_iconst (v := 5) hx hb (am_row_of fe_69_15).1 rfl ?_
    refine lv_iadd hx hb (am_row_of fe_69_16).1 ?_
    refine lv_imul hx hb (am_row_of fe_69_17).1 ?_
    refine lv_ldc hx hb hown hw2 (am_row_of fe_69_18).1 ?_
    refine lv_iadd hx hb (am_row_of fe_69_20).1 ?_
    exact W.iret hx hb hr1 (fun t ht _ => ⟨_, D', rfl, rfl, by rw [ht]; exact hY, va_S.rf.F ht⟩) (fun q hq => absurd hq List.not_mem_nil) (am_row_of fe_69_21).1 (hlocks := hlocks)
  · refine lv_aload_n hx hb (am_row_of fe_69_6).1 rfl l0 ?_
    refine lv_iload_n hx hb (am_row_of fe_69_7).1 rfl l1 ?_
    refine va_sld hx hb hXa hbl (A := fun q => base ≤ q) (Nat.not_le.mpr hbb) va_S.rf (rw_in hn hk q) (am_row_of fe_69_8).1 ?_
    refine lv_goto (tgt := 21) hx hb (am_row_of fe_69_9).1 (by decide) ?_
    exact W.iret hx hb hr1 (fun t ht _ => ⟨_, D', rfl, rfl, by rw [ht]; exact hY, va_S.rf.F ht⟩) (fun q hq => absurd hq List.not_mem_nil) (am_row_of fe_69_21).1 (hlocks := hlocks)
/-! the own row's address is no matter to the skeleton -/
def ln_rok : am_SC → Bool
  | .inl (_, fs) => fs.all (fun o => match o with
    | some (.ref k) => k != am_scr
    | _ => true)
  | .inr (_, _, rs) => rs.all (fun o => match o with
    | some k => k != am_scr
    | none => true)
set_option maxRecDepth 100000 in
theorem ln_rok_all : ay_SK.all ln_rok = true := by decide +kernel
theorem ln_cell_eq {base b b' : Nat} {cs : am_CS} {sc : am_SC} {f : Nat → Int32} (h : ln_rok sc = true) : am_cell base b cs sc f = am_cell base b' cs sc f := by
  have had : ∀ k, k ≠ am_scr → am_ad base b k = am_ad base b' k := fun k hk => by
    unfold am_ad
    rw [if_neg hk, if_neg hk]
  cases sc with
  | inl z =>
    obtain ⟨ci, fs⟩ := z
    unfold ln_rok at h
    have hf : fs.mapIdx (am_fv base b f) = fs.mapIdx (am_fv base b' f) := by
      apply List.ext_getElem?
      intro j
      rw [List.getElem?_mapIdx, List.getElem?_mapIdx]
      cases hj : fs[j]? with
      | none => rfl
      | some o =>
        have ho := List.all_eq_true.mp h o (List.mem_of_getElem? hj)
        cases o with
        | none => rfl
        | some v =>
          cases v <;> first | rfl | skip
          rename_i k
          have hk : k ≠ am_scr := by simpa using ho
          show some (Value.ref (am_ad base b k)) = some (Value.ref (am_ad base b' k))
          rw [had k hk]
    show Sum.inr (ci, fs.mapIdx (am_fv base b f)) = Sum.inr (ci, fs.mapIdx (am_fv base b' f))
    rw [hf]
  | inr z =>
    obtain ⟨kd, n, rs⟩ := z
    cases kd with
    | zero => rfl
    | succ kd =>
      unfold ln_rok at h
      have hf : (fun j => (rs.getD j none).map (am_ad base b)) = (fun j => (rs.getD j none).map (am_ad base b')) := by
        funext j
        rw [List.getD_eq_getElem?_getD]
        cases hj : rs[j]? with
        | none => rfl
        | some o =>
          have ho := List.all_eq_true.mp h o (List.mem_of_getElem? hj)
          cases o with
          | none => rfl
          | some k =>
            have hk : k ≠ am_scr := by simpa using ho
            show some (am_ad base b k) = some (am_ad base b' k)
            rw [had k hk]
      show Sum.inl (cs.2, n, Sum.inr (Sum.inr (Sum.inr (Sum.inr (fun j => (rs.getD j none).map (am_ad base b)))))) = Sum.inl (cs.2, n, Sum.inr (Sum.inr (Sum.inr (Sum.inr (fun j => (rs.getD j none).map (am_ad base b'))))))
      rw [hf]
theorem ln_P_swap {Dg : va_G} {base b b' : Nat} {cs : am_CS} {D D' : am_DD} {H : Heap} (hD : ∀ a, a < 1000 → D' a = D a) (h : am_P Dg base b cs ay_SK D H) : am_P Dg base b' cs ay_SK D' H := by
  intro k sc hk
  have hl : k < 1000 := by
    have h1 := (List.getElem?_eq_some_iff.mp hk).1
    have h2 : ay_SK.length < 1000 := by decide +kernel
    omega
  rw [ln_cell_eq (b' := b) (List.all_eq_true.mp ln_rok_all sc (List.mem_of_getElem? hk)), hD k hl]
  exact h k sc hk
theorem ln_dyn_swap {scr : Option Nat} {Dg : va_G} {base b b' : Nat} {cs : am_CS} {D D' : am_DD} {H : Heap} (hD : ∀ a, a < 1000 → D' a = D a) (h : am_dyn false scr Dg base b cs ay_SK D H) : am_dyn false none Dg base b' cs ay_SK D' H :=
  ⟨ln_P_swap hD h.1, h.2.1, (fun h => by cases h), (fun _ h => by cases h)⟩
def ln_D0 (D : am_DD) : am_DD := fun a k => if a = am_scr then 0 else D a k
theorem ln_D0_row {D : am_DD} {a : Nat} (h : a ≠ am_scr) : ln_D0 D a = D a := by
  funext k
  unfold ln_D0
  rw [if_neg h]
