/-! a call: what comes back -/
section AXC
variable {p : Program} {l : Launch} {e : Env} {R : Room} {s : State} {m : MethodId} {args : Array Value} {below : List Frame} {meth : Method} {c : Code} {H : Heap} {locs : List Loc} {cells slots : Nat} {Q : State → Prop}
variable {pc mc ms base b : Nat} {ls : Array Slot} {Dg : va_G} {cs : am_CS} {SK SK1 : List am_SC} {D D1 : am_DD} {al : Bool} {scr : Option Nat} {st0 rest : List Value} {a : Array Value} {v : Option Value} {E : Nat}
theorem ax_callR (hr : va_Run p l e R s m args below meth c H locs cells slots mc ms (F0 m pc ls st0) rest (ax_Qc al scr Dg base b cs SK1 D1 v a) (fun q => base ≤ q)) (hS : va_S (fun q => base ≤ q) s.heap H locs)
    (kk : ∀ (H1 : Heap) (locs1 : List Loc), va_S (fun q => base ≤ q) s.heap H1 locs1 → am_dyn al scr Dg base b cs SK1 D1 H1 → W p l e R s m args below meth c H1 locs1 (cells + mc) (slots + ms) Q (F0 m (pc + 3) ls (v.toList ++ rest))) : W p l e R s m args below meth c H locs cells slots Q (F0 m pc ls st0) := by
  intro T hT X
  obtain ⟨v', st₀, t, T', L, h0, X', hL, e1, e2, ⟨hv, hY, hF⟩, st⟩ := hr T hT X
  cases hv
  obtain ⟨k1, k2, k3⟩ := vx_keep (A0 := fun q => base ≤ q) (A1 := fun q => base ≤ q) h0 e1 hS (fun _ _ h => h) (fun _ h => h) hL hF
  obtain ⟨t2, a1, b1⟩ := kk T'.heap (locs ++ L) k3 (by rw [e1]; exact hY) T' rfl X'
  exact ⟨t2, st t2 a1, b1⟩
theorem ax_callX (hr : vx_Run p l e R s m args below meth c H locs cells slots mc ms (F0 m pc ls st0) rest (fun _ _ _ => False) (ax_XC al scr Dg base b cs SK1 D1 E) (fun q => base ≤ q)) (hS : va_S (fun q => base ≤ q) s.heap H locs)
    (kk : ∀ (H1 : Heap) (locs1 : List Loc) (q9 : Addr) (ce : Cell), va_S (fun q => base ≤ q) s.heap H1 locs1 → am_dyn al scr Dg base b cs SK1 D1 H1 → H1[q9]? = some ce → ce.vm = .none → s.vm.findClass (am_ename E) = some ce.cls → vx_W p l e R s m args below meth c H1 locs1 (cells + mc) (slots + ms) Q (F0 m pc ls rest) q9) : W p l e R s m args below meth c H locs cells slots Q (F0 m pc ls st0) := by
  intro T hT X
  rcases hr T hT X with ⟨v', st₀, t, T', L, h0, X', hL, e1, e2, hF, st⟩ | ⟨q, st₀, t, T', L, E', ce, h0, X', hL, e1, e2, ⟨rfl, hY, hF⟩, hce, hcv, hcl, st⟩
  · exact hF.elim
  · obtain ⟨k1, k2, k3⟩ := vx_keep (A0 := fun q => base ≤ q) (A1 := fun q => base ≤ q) h0 e1 hS (fun _ _ h => h) (fun _ h => h) hL hF
    obtain ⟨t2, a1, b1⟩ := kk T'.heap (locs ++ L) q ce k3 (by rw [e1]; exact hY) (by rw [e1]; exact hce) hcv hcl T' rfl X'
    exact ⟨t2, st.trans a1, b1⟩
end AXC
theorem ax_args {j : Nat} {S As S1 : List Value} (h : am_args j S = some (As, S1)) : S = As.reverse ++ S1 ∧ As.length = am_np j ∧ am_words S1 ≤ 8 ∧ (∀ v ∈ As, v.category = 1) ∧ As.length ≤ am_mL j := by
  unfold am_args at h
  split at h
  next hc =>
    obtain ⟨h1, h2, h3, h4⟩ := hc
    cases h
    have hl : (List.take (am_np j) S).reverse.length = am_np j := by rw [List.length_reverse, List.length_take]; omega
    refine ⟨by rw [List.reverse_reverse, List.take_append_drop], hl, h2, fun v hv => h3 v (List.mem_reverse.mp hv), by rw [hl]; exact h4⟩
  next => cases h
set_option maxHeartbeats 4000000 in
/-- the rows of a call, as the kit asks for them; k: how many are there beside the receiver -/
theorem ax_cb {p : Program} {l : Launch} {R : Room} {s : State} {m : MethodId} {args : Array Value} {meth : Method} {c : Code} {i a idx : Nat} {Dg : va_G} {cs : am_CS} {base b n mc ms : Nat} {scr : Option Nat} (hX : ax_ctx Dg cs base b scr p l R s m args meth c i)
    (hh : am_hh a = []) (hfr : am_fr a + 1 ≤ am_fr i) (hlo : 8 + (am_mL a + 11) + am_lo a ≤ am_lo i) (hy1 : (am_y a).cls ≠ "java/lang/invoke/MethodHandle") (hy2 : (am_y a).cls ≠ "java/lang/invoke/VarHandle")
    (hn : ∀ sig, parseMethodDescriptor (am_y a).desc = some sig → n = sig.parameters.length) (hw0 : am_code a ∈ am_GW) (hw1 : Cond.initialized (am_own a) ∈ am_GW) (hw2 : Cond.methodLink (am_own i) idx (am_y a) ∈ am_GW) :
    CallB R s args (am_own i) idx (am_y a) (am_b a) (am_mL a) (am_ret a) (ax_ws a) { frames := am_fr a, cells := mc, slots := ms, locals := am_lo a } mc ms n := by
  obtain ⟨-, -, -, -, hts, -, -, h1, h2, -⟩ := hX
  have hcode : am_code a = .code (am_y a) (am_b a) (am_mL a) (am_ret a) := if_pos hh
  refine ⟨rfl, rfl, Nat.le_trans hfr h1, Nat.le_trans hlo h2, fun w hw a' U hW => ?_, by rw [← hcode]; exact List.mem_cons_self, by rw [← hcode]; exact hts _ hw0, hts _ hw1, ⟨hy1, hy2⟩, hn, hts _ hw2⟩
  have hg : w ∈ am_GW := (List.mem_cons.mp hw).elim (fun h => by rw [h]; exact hw0) id
  exact word_at hW (good_of_word (List.mem_filter.mp hg).2) (hts w hg)
theorem ax_cn {p : Program} {l : Launch} {R : Room} {s : State} {m : MethodId} {args : Array Value} {meth : Method} {c : Code} {i a idx : Nat} {Dg : va_G} {cs : am_CS} {base b n mc ms : Nat} {scr : Option Nat} (hX : ax_ctx Dg cs base b scr p l R s m args meth c i)
    (hh : am_hh a = []) (hfr : am_fr a + 1 ≤ am_fr i) (hlo : 8 + (am_mL a + 11) + am_lo a ≤ am_lo i) (hy1 : (am_y a).cls ≠ "java/lang/invoke/MethodHandle") (hy2 : (am_y a).cls ≠ "java/lang/invoke/VarHandle")
    (hn : ∀ sig, parseMethodDescriptor (am_y a).desc = some sig → n = sig.parameters.length) (hw0 : am_code a ∈ am_GW) (hw1 : Cond.initialized (am_own a) ∈ am_GW) (hw2 : Cond.methodLinkNest (am_own i) idx (am_y a) RX10 ∈ am_NW) :
    va_CN R s args (am_own i) idx (am_y a) RX10 (am_b a) (am_mL a) (am_ret a) (ax_ws a) { frames := am_fr a, cells := mc, slots := ms, locals := am_lo a } mc ms n := by
  obtain ⟨-, -, -, -, hts, hE, -, h1, h2, -⟩ := hX
  have hcode : am_code a = .code (am_y a) (am_b a) (am_mL a) (am_ret a) := if_pos hh
  refine ⟨⟨rfl, rfl, Nat.le_trans hfr h1, Nat.le_trans hlo h2, fun w hw a' U hW => ?_, by rw [← hcode]; exact List.mem_cons_self⟩, by rw [← hcode]; exact hts _ hw0, hts _ hw1, ⟨hy1, hy2⟩, hn, va_Nw.use rfl (hE.2.1 _ hw2)⟩
  have hg : w ∈ am_GW := (List.mem_cons.mp hw).elim (fun h => by rw [h]; exact hw0) id
  exact word_at hW (good_of_word (List.mem_filter.mp hg).2) (hts w hg)
theorem ax_csw {p : Program} {l : Launch} {R : Room} {s : State} {m : MethodId} {args : Array Value} {meth : Method} {c : Code} {i a idx : Nat} {Dg : va_G} {cs : am_CS} {base b n mc ms : Nat} {scr : Option Nat} (hX : ax_ctx Dg cs base b scr p l R s m args meth c i)
    (hh : ¬ am_hh a = []) (hfr : am_fr a + 1 ≤ am_fr i) (hlo : 8 + (am_mL a + 11) + am_lo a ≤ am_lo i) (hy1 : (am_y a).cls ≠ "java/lang/invoke/MethodHandle") (hy2 : (am_y a).cls ≠ "java/lang/invoke/VarHandle")
    (hn : ∀ sig, parseMethodDescriptor (am_y a).desc = some sig → n = sig.parameters.length) (hw0 : am_code a ∈ am_GW) (hw1 : Cond.initialized (am_own a) ∈ am_GW) (hw2 : Cond.methodLink (am_own i) idx (am_y a) ∈ am_GW) (hw3 : Cond.static (am_y a) ∈ am_GW) :
    vx_CSW R s args (am_own i) idx (am_y a) (am_b a) (am_mL a) (am_ret a) (am_hh a) (ax_ws a) { frames := am_fr a, cells := mc, slots := ms, locals := am_lo a } mc ms n := by
  obtain ⟨-, -, -, -, hts, -, -, h1, h2, -⟩ := hX
  have hcode : am_code a = .codeWith (am_y a) (am_b a) (am_mL a) (am_ret a) (am_hh a) := if_neg hh
  refine ⟨⟨rfl, rfl, Nat.le_trans hfr h1, Nat.le_trans hlo h2, fun w hw a' U hW => ?_, by rw [← hcode]; exact List.mem_cons_self⟩, by rw [← hcode]; exact hts _ hw0, hts _ hw1, ⟨hy1, hy2⟩, hn, hts _ hw2, hts _ hw3⟩
  have hg : w ∈ am_GW := (List.mem_cons.mp hw).elim (fun h => by rw [h]; exact hw0) id
  exact word_at hW (good_of_word (List.mem_filter.mp hg).2) (hts w hg)
/-- the callee's premise, at this point of the caller's walk -/
theorem ax_pre {p : Program} {l : Launch} {R : Room} {s : State} {m : MethodId} {args : Array Value} {meth : Method} {c : Code} {i : Nat} {Dg : va_G} {cs : am_CS} {base b : Nat} {scr : Option Nat} {al : Bool} {SK : List am_SC} {D : am_DD} {H : Heap} {locs : List Loc} {As : List Value} (hX : ax_ctx Dg cs base b scr p l R s m args meth c i) (hS : va_S (fun q => base ≤ q) s.heap H locs) (hY : am_dyn al scr Dg base b cs SK D H) :
    ∀ U : State, U.heap = H → s.WarmedH U.vm → ax_Pc al scr Dg base b cs SK D As (As.map (am_tr base b)).toArray U := fun U hU hW =>
  ⟨rfl, ax_env.moved hW (fun q h1 h2 => by rw [hU]; exact hS.2.1 q h1 h2) hX.2.2.2.2.2.1, by rw [hU]; exact hY⟩
theorem ax_plen {d : String} {k n : Nat} (h : (parseMethodDescriptor d).map (fun d => d.parameters.length + k) = some n) {z : Nat} (hz : z + k = n) : ∀ sig, parseMethodDescriptor d = some sig → z = sig.parameters.length := fun sig hs => by
  rw [hs] at h
  have h2 : sig.parameters.length + k = n := Option.some.inj h
  omega
theorem ax_rcvV {idx j : Nat} {As : List Value} {SK : List am_SC} (h : am_rcv (.invokevirtual idx) j As SK = true) : ∃ r As' fs, As = .ref r :: As' ∧ am_at SK r = some (.inl (am_ci j, fs)) := by
  cases As with
  | nil => exact absurd h Bool.false_ne_true
  | cons w As' =>
    cases w <;> first | exact absurd h Bool.false_ne_true | skip
    rename_i r
    unfold am_rcv at h
    dsimp only at h
    cases hat : am_at SK r with
    | none => rw [hat] at h; exact absurd h Bool.false_ne_true
    | some sc =>
      rw [hat] at h
      cases sc with
      | inr z => exact absurd h Bool.false_ne_true
      | inl z =>
        obtain ⟨ci, fs⟩ := z
        have h2 : ci = am_ci j := of_decide_eq_true h
        exact ⟨r, As', fs, rfl, by rw [hat, h2]⟩
theorem ax_rcvI {idx j : Nat} {As : List Value} {SK : List am_SC} (h : am_rcv (.invokespecial idx) j As SK = true) : ∃ r As', As = .ref r :: As' := by
  cases As with
  | nil => exact absurd h Bool.false_ne_true
  | cons w As' =>
    cases w <;> first | exact absurd h Bool.false_ne_true | exact ⟨_, _, rfl⟩
section AXK
variable {p : Program} {l : Launch} {e : Env} {R : Room} {s : State} {m : MethodId} {args : Array Value} {below : List Frame} {meth : Method} {c : Code} {H : Heap} {locs : List Loc} {cells slots : Nat} {Q : State → Prop}
variable {i pc len a b0 mc ms base b : Nat} {ins : Instr} {ls : Array Slot} {Dg : va_G} {cs : am_CS} {SK SK1 : List am_SC} {D D1 : am_DD} {al : Bool} {As S S1 : List Value} {v : Option Value} {E : Nat} {scr : Option Nat}
set_option maxHeartbeats 8000000 in
/-- a call that returns -/
theorem ax_goR (hX : ax_ctx Dg cs base b scr p l R s m args meth c i) (hS : va_S (fun q => base ≤ q) s.heap H locs) (hY : am_dyn al scr Dg base b cs SK D H) (hls : ls.size = am_mL i) (hf : am_fetch i pc = some (ins, len, 7, a, b0)) (hA : am_args a S = some (As, S1)) (hrc : am_rcv ins a As SK = true)
    (hM : Met l (am_y a) (ax_ws a) { frames := am_fr a, cells := mc, slots := ms, locals := am_lo a } (ax_Pc al scr Dg base b cs SK D As) (ax_Qc al scr Dg base b cs SK1 D1 v) mc ms (fun q => base ≤ q)) (hc1 : cells + mc ≤ R.cells) (hs1 : slots + ms ≤ R.slots) :
    va_Run p l e R s m args below meth c H locs cells slots mc ms (F0 m pc ls (S.map (am_tr base b))) (S1.map (am_tr base b)) (ax_Qc al scr Dg base b cs SK1 D1 v (As.map (am_tr base b)).toArray) (fun q => base ≤ q) := by
  obtain ⟨hd, hchk, hw1, hw2⟩ := am_row_of hf
  have hthr := ax_thr_of hf
  obtain ⟨rfl, hlen, hwd, hcat, hmax⟩ := ax_args hA
  obtain ⟨hx, hb, hml, hown, hts, hE, -⟩ := id hX
  have hrm : ∀ st : List Value, 2 * (F0 m pc ls st).monitorRoom + ((S1.map (am_tr base b)).map fun v => v.category).sum ≤ 8 := fun st => lv_room (by rw [am_words_map]; exact hwd)
  have hpre := ax_pre (As := As) hX hS hY
  have hmap : (As.reverse ++ S1).map (am_tr base b) = (As.map (am_tr base b)).reverse ++ S1.map (am_tr base b) := by rw [List.map_append, List.map_reverse]
  dsimp only at hd hchk hw1 hw2
  cases ins <;> first | (exfalso; exact Bool.false_ne_true hthr) | skip
  case invokevirtual idx =>
    simp only [am_chk, Bool.and_eq_true, beq_iff_eq, decide_eq_true_eq] at hchk
    obtain ⟨⟨⟨⟨⟨⟨⟨⟨rfl, g1⟩, g2⟩, g3⟩, g4⟩, g5⟩, g6⟩, g7⟩, g8⟩ := hchk
    obtain ⟨r, As', fs, rfl, hat⟩ := ax_rcvV hrc
    · · obtain ⟨hk, hr⟩ := am_at_spec hat
        have hwl : ∀ w ∈ am_word i (pc, Instr.invokevirtual idx, 3, 7, a, b0), w ∈ am_GW := hw1
        have u1 : Cond.methodLink (am_own i) idx (am_y a) ∈ am_GW := hwl _ (by simp [am_word])
        have u2 : Cond.instanceMethod (am_y a) ∈ am_GW := hwl _ (by simp [am_word])
        have u3 : Cond.selects (am_own a) (am_y a) (am_y a) ∈ am_GW := hwl _ (by simp [am_word])
        have u4 : Cond.initialized (am_own a) ∈ am_GW := hwl _ (by simp [am_word])
        have u5 : am_code a ∈ am_GW := am_cw_in fun w hw => hwl _ (by simp [am_word, hw])
        have htr : (Value.ref r :: As').map (am_tr base b) = .ref (base + r) :: As'.map (am_tr base b) := by
          show Value.ref (am_ad base b r) :: _ = _
          rw [am_ad_of hr]
        rw [htr] at hmap hpre ⊢
        obtain ⟨c1, c2, -⟩ := am_cls_ok _ g7
        have hrecv := va_recv hE.1 (hY.1.one hk rfl) c1 (show ([(base + r, _)] : va_W)[0]? = some (base + r, _) from rfl)
        rw [g8] at hrecv
        exact va_runV (As := As'.map (am_tr base b)) (rest := S1.map (am_tr base b)) ⟨hx, hb, hml, hown, hts⟩ hM ⟨ax_cb (n := As'.length) hX g6 g1 g2 g3 g4 (ax_plen (k := 1) g5 (by rw [← hlen]; rfl)) u5 u4 u1, hts _ u2, hts _ u3⟩ ⟨ax_blind, hrecv, hpre⟩ rfl (by simp) hls (by rw [hmap]; simp) (hrm _) hd ⟨hc1, hs1⟩
  case invokespecial idx =>
    simp only [am_chk, Bool.and_eq_true, beq_iff_eq, decide_eq_true_eq] at hchk
    obtain ⟨⟨⟨⟨⟨⟨⟨⟨⟨rfl, g1⟩, g2⟩, g3⟩, g4⟩, g5⟩, g6⟩, g7⟩, g8⟩, g9⟩ := hchk
    obtain ⟨r, As', rfl⟩ := ax_rcvI hrc
    · have htr : (Value.ref r :: As').map (am_tr base b) = .ref (am_ad base b r) :: As'.map (am_tr base b) := rfl
      rw [htr] at hmap hpre ⊢
      rcases (show b0 = 0 ∨ b0 = 1 by omega) with rfl | rfl
      · have hwl : ∀ w ∈ am_word i (pc, Instr.invokespecial idx, 3, 7, a, 0), w ∈ am_GW := hw1
        have u1 : Cond.methodLink (am_own i) idx (am_y a) ∈ am_GW := hwl _ (by simp [am_word])
        have u2 : Cond.instanceMethod (am_y a) ∈ am_GW := hwl _ (by simp [am_word])
        have u4 : Cond.initialized (am_own a) ∈ am_GW := hwl _ (by simp [am_word])
        have u5 : am_code a ∈ am_GW := am_cw_in fun w hw => hwl _ (by simp [am_word, hw])
        have hcb := ax_cb (n := As'.length) (mc := mc) (ms := ms) hX g6 g1 g2 g3 g4 (ax_plen (k := 1) g5 (by rw [← hlen]; rfl)) u5 u4 u1
        rw [g8] at hcb
        exact va_runI (As := As'.map (am_tr base b)) (rest := S1.map (am_tr base b)) ⟨hx, hb, hml, hown, hts⟩ hM ⟨hcb, g7, hts _ u2⟩ ⟨ax_blind, hpre⟩ rfl (by simp) hls (by rw [hmap]; simp) (hrm _) hd ⟨hc1, hs1⟩
      · have hwl : ∀ w ∈ am_word i (pc, Instr.invokespecial idx, 3, 7, a, 1), w ∈ am_GW := hw1
        have u1 : Cond.methodLinkNest (am_own i) idx (am_y a) RX10 ∈ am_NW := hw2 _ (by simp [am_nword])
        have u2 : Cond.instanceMethod (am_y a) ∈ am_GW := hwl _ (by simp [am_word])
        have u4 : Cond.initialized (am_own a) ∈ am_GW := hwl _ (by simp [am_word])
        have u5 : am_code a ∈ am_GW := am_cw_in fun w hw => hwl _ (by simp [am_word, hw])
        have hcb := ax_cn (n := As'.length) (mc := mc) (ms := ms) hX g6 g1 g2 g3 g4 (ax_plen (k := 1) g5 (by rw [← hlen]; rfl)) u5 u4 u1
        rw [g8] at hcb
        exact va_runIN (As := As'.map (am_tr base b)) (rest := S1.map (am_tr base b)) ⟨hx, hb, hml, hown, hts⟩ hM ⟨hcb, g7, hts _ u2⟩ ⟨ax_blind, hpre⟩ rfl (by simp) hls (by rw [hmap]; simp) (hrm _) hd ⟨hc1, hs1⟩
  case invokestatic idx =>
    simp only [am_chk, Bool.and_eq_true, beq_iff_eq, decide_eq_true_eq] at hchk
    obtain ⟨⟨⟨⟨⟨rfl, g1⟩, g2⟩, g3⟩, g4⟩, g5⟩ := hchk
    have hwl : ∀ w ∈ am_word i (pc, Instr.invokestatic idx, 3, 7, a, b0), w ∈ am_GW := hw1
    have u1 : Cond.methodLink (am_own i) idx (am_y a) ∈ am_GW := hwl _ (by simp [am_word])
    have u2 : Cond.static (am_y a) ∈ am_GW := hwl _ (by simp [am_word])
    have u4 : Cond.initialized (am_own a) ∈ am_GW := hwl _ (by simp [am_word])
    have u5 : am_code a ∈ am_GW := am_cw_in fun w hw => hwl _ (by simp [am_word, hw])
    have hn := ax_plen (k := 0) (z := As.length) (by simpa using g5) hlen
    by_cases hh : am_hh a = []
    · exact va_runS (As := As.map (am_tr base b)) (rest := S1.map (am_tr base b)) ⟨hx, hb, hml, hown, hts⟩ hM ⟨ax_cb (n := As.length) hX hh g1 g2 g3 g4 hn u5 u4 u1, hts _ u2⟩ ⟨ax_blind, hpre⟩ rfl (by simp) hls hmap (hrm _) hd ⟨hc1, hs1⟩
    · exact vx_runSW (As := As.map (am_tr base b)) (rest := S1.map (am_tr base b)) ⟨hx, hb, hml, hown, hts⟩ hM (ax_csw (n := As.length) hX hh g1 g2 g3 g4 hn u5 u4 u1 u2) ⟨ax_blind, hpre⟩ rfl (by simp) hls hmap (hrm _) hd ⟨hc1, hs1⟩
set_option maxHeartbeats 8000000 in
/-- a call that throws -/
theorem ax_goX (hX : ax_ctx Dg cs base b scr p l R s m args meth c i) (hS : va_S (fun q => base ≤ q) s.heap H locs) (hY : am_dyn false scr Dg base b cs SK D H) (hls : ls.size = am_mL i) (hf : am_fetch i pc = some (ins, len, 7, a, b0)) (hA : am_args a S = some (As, S1)) (hrc : am_rcv ins a As SK = true) (h9 : ∃ pc ins len b0, am_fetch a pc = some (ins, len, 9, E, b0))
    (hM : vx_Met l (am_y a) (ax_ws a) { frames := am_fr a, cells := mc, slots := ms, locals := am_lo a } (ax_Pc false scr Dg base b cs SK D As) (fun _ _ _ _ => False) (ax_XC false scr Dg base b cs SK1 D1 E) mc ms (fun q => base ≤ q)) (hc1 : cells + mc ≤ R.cells) (hs1 : slots + ms ≤ R.slots) :
    vx_Run p l e R s m args below meth c H locs cells slots mc ms (F0 m pc ls (S.map (am_tr base b))) (S1.map (am_tr base b)) (fun _ _ _ => False) (ax_XC false scr Dg base b cs SK1 D1 E) (fun q => base ≤ q) := by
  obtain ⟨hd, hchk, hw1, hw2⟩ := am_row_of hf
  have hthr := ax_thr_of hf
  obtain ⟨rfl, hlen, hwd, hcat, hmax⟩ := ax_args hA
  obtain ⟨hx, hb, hml, hown, hts, hE, -⟩ := id hX
  have hrm : ∀ st : List Value, 2 * (F0 m pc ls st).monitorRoom + ((S1.map (am_tr base b)).map fun v => v.category).sum ≤ 8 := fun st => lv_room (by rw [am_words_map]; exact hwd)
  have hpre := ax_pre (As := As) hX hS hY
  have hmap : (As.reverse ++ S1).map (am_tr base b) = (As.map (am_tr base b)).reverse ++ S1.map (am_tr base b) := by rw [List.map_append, List.map_reverse]
  obtain ⟨pc9, ins9, len9, b9, hf9⟩ := h9
  dsimp only at hd hchk hw1 hw2
  cases ins <;> first | (exfalso; exact Bool.false_ne_true hthr) | (exfalso; exact ax_no9_of hf9 hthr rfl) | (exfalso; simp only [ax_thr, Bool.and_eq_true] at hthr; exact ax_no9_of hf9 hthr.2 rfl) | skip
  case invokevirtual idx =>
    simp only [am_chk, Bool.and_eq_true, beq_iff_eq, decide_eq_true_eq] at hchk
    obtain ⟨⟨⟨⟨⟨⟨⟨⟨rfl, g1⟩, g2⟩, g3⟩, g4⟩, g5⟩, g6⟩, g7⟩, g8⟩ := hchk
    obtain ⟨r, As', fs, rfl, hat⟩ := ax_rcvV hrc
    · · obtain ⟨hk, hr⟩ := am_at_spec hat
        have hwl : ∀ w ∈ am_word i (pc, Instr.invokevirtual idx, 3, 7, a, b0), w ∈ am_GW := hw1
        have u1 : Cond.methodLink (am_own i) idx (am_y a) ∈ am_GW := hwl _ (by simp [am_word])
        have u2 : Cond.instanceMethod (am_y a) ∈ am_GW := hwl _ (by simp [am_word])
        have u3 : Cond.selects (am_own a) (am_y a) (am_y a) ∈ am_GW := hwl _ (by simp [am_word])
        have u4 : Cond.initialized (am_own a) ∈ am_GW := hwl _ (by simp [am_word])
        have u5 : am_code a ∈ am_GW := am_cw_in fun w hw => hwl _ (by simp [am_word, hw])
        have htr : (Value.ref r :: As').map (am_tr base b) = .ref (base + r) :: As'.map (am_tr base b) := by
          show Value.ref (am_ad base b r) :: _ = _
          rw [am_ad_of hr]
        rw [htr] at hmap hpre
        obtain ⟨c1, c2, -⟩ := am_cls_ok _ g7
        have hrecv := va_recv hE.1 (hY.1.one hk rfl) c1 (show ([(base + r, _)] : va_W)[0]? = some (base + r, _) from rfl)
        rw [g8] at hrecv
        exact vx_runV (As := As'.map (am_tr base b)) (rest := S1.map (am_tr base b)) ⟨hx, hb, hml, hown, hts⟩ hM ⟨ax_cb (n := As'.length) hX g6 g1 g2 g3 g4 (ax_plen (k := 1) g5 (by rw [← hlen]; rfl)) u5 u4 u1, hts _ u2, hts _ u3⟩ ⟨ax_blind, hrecv, hpre⟩ rfl (by simp) hls (by rw [hmap]; simp) (hrm _) hd ⟨hc1, hs1⟩
end AXK
