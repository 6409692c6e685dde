/-! throws, catching and calls: the tables' checks, what a frame has from its beginning, its entry and its end as contracts -/
def ax_txt : List (Nat × String) := [(71, "the pitch is not 0 to 30"), (84, "there are 12 gates"), (104, "there is no such gate, exit or target"), (107, "the target is a gate that is not greater"), (116, "there is no such gate"), (125, "there is no such setting"), (127, "the value is out of range"), (138, "the count is not 1 to 40"), (143, "more than 200 balls would be to be dropped"), (148, "the beats are not 1 to 50"), (156, "there is no such bin"), (260, "what is not 0 to 7"), (262, "the rank is negative, or what is not 0 to 4"), (290, "what is not 0 to 2"), (315, "what is not 0 to 11"), (317, "the index is negative, or what is not 0 to 2"), (331, "the beat is negative"), (351, "what is not 0 to 6"), (356, "there is no such gate or bin"), (361, "the count is not 0 to 1000, or the way is not 0 or 1"), (369, "the count is not 0 to 1000"), (374, "the index is not 0 to 999")]
def ax_t1 (j pc E : Nat) (t : Nat × String) : Bool := decide (decode (am_b j) (pc + 4) = .ok (.ldc t.1, 2)) && (decide (decode (am_b j) (pc + 6) = .ok (.invokespecial (am_ic E), 3)) && decide (decode (am_b j) (pc + 9) = .ok (.athrow, 1)))
def ax_t2 (j pc E : Nat) (t : Nat × String) : Bool := decide (decode (am_b j) (pc + 4) = .ok (.ldc_w t.1, 3)) && (decide (decode (am_b j) (pc + 7) = .ok (.invokespecial (am_ic E), 3)) && decide (decode (am_b j) (pc + 10) = .ok (.athrow, 1)))
def ax_no9 (a : Nat) : Bool := (am_ct a).all (fun q => q.2.2.2.1 != 9)
/-- a row's own check beyond am_chk: a throw as a whole; who may throw, who may catch -/
def ax_thr (j : Nat) : Nat × Instr × Nat × Nat × Nat × Nat → Bool
  | (pc, .new ik, _, 9, E, _) => decide (E < 3) && (decide (decode (am_b j) pc = .ok (.new ik, 3)) && (decide (decode (am_b j) (pc + 3) = .ok (.dup, 1)) && (ax_txt.any (fun t => ax_t1 j pc E t || ax_t2 j pc E t) && (decide (am_own j = RX10) && (decide (am_hh j = []) && (decide (6 ≤ am_fr j) && decide (90 ≤ am_lo j)))))))
  | (_, .invokevirtual _, _, 7, a, _) => decide (am_hh a = [])
  | (_, .invokestatic _, _, 7, a, _) => ax_no9 a
  | (_, .invokespecial _, _, 7, a, _) => decide (am_hh a = []) && ax_no9 a
  | (_, _, l, 8, _, _) => l == 1
  | (_, _, _, 9, _, _) => false
  | (_, _, _, 7, _, _) => false
  | _ => true
set_option maxRecDepth 100000 in
theorem ax_thr_all : (List.range 107).all (fun j => (am_ct j).all (ax_thr j)) = true := by decide +kernel
set_option maxRecDepth 100000 in
theorem ax_cts_len : am_cts.length = 107 := by decide +kernel
theorem ax_ct_lt {i : Nat} {q : Nat × Instr × Nat × Nat × Nat × Nat} (h : q ∈ am_ct i) : i < 107 := by
  rcases Nat.lt_or_ge i 107 with z | z
  · exact z
  · exfalso
    unfold am_ct at h
    rw [List.getD_eq_getElem?_getD, List.getElem?_eq_none (by rw [ax_cts_len]; exact z)] at h
    cases h
theorem ax_thr_of {i pc : Nat} {q : Instr × Nat × Nat × Nat × Nat} (h : am_fetch i pc = some q) : ax_thr i (pc, q) = true :=
  List.all_eq_true.mp (List.all_eq_true.mp ax_thr_all i (List.mem_range.mpr (ax_ct_lt (am_fetch_mem h)))) _ (am_fetch_mem h)
theorem ax_no9_of {a pc : Nat} {ins : Instr} {len g E b : Nat} (h : am_fetch a pc = some (ins, len, g, E, b)) (hn : ax_no9 a = true) : ¬ g = 9 := fun hg => by
  have h1 := List.all_eq_true.mp hn _ (am_fetch_mem h)
  simp [hg] at h1
/-- a handler begins by putting the exception into a local -/
def ax_hrow (i : Nat) (q : Nat × Nat × Nat × Nat) : Bool := decide (q.2.2.2 = 16 ∨ q.2.2.2 = 18) && (decide (am_own i = RL) && (match am_fetch i q.2.2.1 with
  | some (.astore_n k, _, 1, _, _) => decide ((k : Nat) < am_mL i)
  | some (.astore k, _, 1, _, _) => decide (k < am_mL i)
  | _ => false))
set_option maxRecDepth 100000 in
theorem ax_hh_all : (List.range 107).all (fun j => (am_hh j).all (ax_hrow j)) = true := by decide +kernel
set_option maxRecDepth 100000 in
theorem ax_plain_all : (List.range 107).all (fun j => plainName (am_y j).cls) = true := by decide +kernel
/-! the words of a throw -/
def ax_xw (E : Nat) : List Cond := vx_atS RX10 (am_ic E) (am_ename E) am_up2
def ax_xok (E : Nat) : Bool := (ax_xw E).all (fun w => (goodWord w || am_nestW w) && lw_tbl.any (fun z => decide (w = z)))
set_option maxRecDepth 100000 in
theorem ax_xok0 : ax_xok 0 = true := by decide +kernel
set_option maxRecDepth 100000 in
theorem ax_xok1 : ax_xok 1 = true := by decide +kernel
set_option maxRecDepth 100000 in
theorem ax_xok2 : ax_xok 2 = true := by decide +kernel
theorem ax_xok_of {E : Nat} (h : E < 3) : ax_xok E = true := by
  match E, h with
  | 0, _ => exact ax_xok0
  | 1, _ => exact ax_xok1
  | 2, _ => exact ax_xok2
  | n + 3, h => exact absurd h (by omega)
theorem ax_xw_in {E : Nat} (h : E < 3) {w : Cond} (hw : w ∈ ax_xw E) : w ∈ am_GW ∨ w ∈ am_NW := by
  have h1 := List.all_eq_true.mp (ax_xok_of h) w hw
  simp only [Bool.and_eq_true, Bool.or_eq_true, List.any_eq_true, decide_eq_true_eq] at h1
  obtain ⟨h2, z, hz, rfl⟩ := h1
  rcases h2 with h2 | h2
  · exact Or.inl (List.mem_filter.mpr ⟨hz, h2⟩)
  · exact Or.inr (List.mem_filter.mpr ⟨hz, h2⟩)
theorem ax_nest_tab {w : Cond} (h : am_nestW w = true) : w.onTables = true := by
  cases w <;> first | rfl | exact absurd h Bool.false_ne_true
theorem ax_good_ot {w : Cond} (h : goodWord w = true ∨ am_nestW w = true) : vx_ot w = true := by
  unfold vx_ot
  rcases h with h | h
  · rw [h, Bool.or_true]
  · rw [ax_nest_tab h, Bool.true_or]
theorem ax_Nw_warm {w : Cond} (hw : am_nestW w = true) {u U : State} (hW : u.WarmedH U.vm) (h : va_Nw w u) : va_Nw w U := by
  cases w <;> first
    | exact absurd hw Bool.false_ne_true
    | exact va_Nw.warmF hW h
    | exact va_Nw.warmM hW h
    | exact va_Nw.warmD hW h
    | exact va_tabs rfl (rfl : (u.setVm U.vm).vm = U.vm) (by rw [Cond.castable_setVm hW.alike]; exact h)
/-! the environment -/
def ax_env (Dg : va_G) (cs : am_CS) (base : Nat) (U : State) : Prop :=
  va_K Dg vwCl (am_tyl cs) U ∧ (∀ w ∈ am_NW, va_Nw w U) ∧ va_AO RX7 U ∧ (∀ q ∈ ax_txt, ∃ sa, vk_R RX10 q.1 q.2 sa U) ∧ vx_Zq Bundle.tN "UNASSIGNED_STACK" Bundle.steD (fun q => base ≤ q) U U.heap ∧ vx_Zq Bundle.tN "SUPPRESSED_SENTINEL" Bundle.listD (fun q => base ≤ q) U U.heap ∧ ∀ a ∈ am_en, ∀ b ∈ am_en.take 2, a ≠ b → va_Nc a b U
theorem ax_env.moved {Dg : va_G} {cs : am_CS} {base : Nat} {u U : State} (hW : u.WarmedH U.vm) (hq : ∀ a : Nat, a < u.heap.size → ¬ base ≤ a → U.heap[a]? = u.heap[a]?) (h : ax_env Dg cs base u) : ax_env Dg cs base U := by
  obtain ⟨h1, h2, h3, h4, h5, h6, h7⟩ := h
  refine ⟨h1.moved hW.alike, fun w hw => ax_Nw_warm (List.mem_filter.mp hw).2 hW (h2 w hw), h3.moved hW.alike, fun q hq => ?_, vx_Zq.moved hW.alike (h5.kept hq), vx_Zq.moved hW.alike (h6.kept hq), fun a ha b hb hab => (h7 a ha b hb hab).moved hW.alike⟩
  obtain ⟨sa, hs⟩ := h4 q hq
  exact ⟨sa, vk_R.warm hW hs⟩
/-- what a frame of method i has from its beginning -/
def ax_ctx (Dg : va_G) (cs : am_CS) (base b : Nat) (scr : Option Nat) (p : Program) (l : Launch) (R : Room) (s : State) (m : MethodId) (args : Array Value) (meth : Method) (c : Code) (i : Nat) : Prop :=
  p.tables.exec = Jvm.exec ∧ c.code = am_b i ∧ c.maxLocals = am_mL i ∧ s.vm.findClass (am_own i) = some m.cls ∧ (∀ w ∈ am_GW, w.before args s = true) ∧ ax_env Dg cs base s ∧ meth.name = (am_y i).name ∧ am_fr i ≤ R.frames ∧ am_lo i ≤ R.locals ∧ (∀ n, scr = some n → n = n) ∧ l.stackTraces = false ∧ c.exceptionTable.toList = tableOf (am_hh i) ∧ meth.locks = false ∧ meth.sig.returnType = am_ret i
/-! the entry -/
theorem ax_lg : ∀ {vs : List Value}, (∀ v ∈ vs, v.category = 1) → (lg_sl vs).length = vs.length := by
  intro vs
  induction vs with
  | nil => intro _; rfl
  | cons v vs ih =>
    intro h
    have h1 : v.category = 1 := h v List.mem_cons_self
    have h2 := ih (fun w hw => h w (List.mem_cons_of_mem _ hw))
    unfold lg_sl at h2 ⊢
    rw [List.flatMap_cons, List.length_append, h2, h1]
    simp; omega
theorem ax_lva : ∀ {vs : List Value} {k j : Nat} {v : Value}, (∀ v ∈ vs, v.category = 1) → vs[j]? = some v → (k + j, v) ∈ lv_args k vs := by
  intro vs
  induction vs with
  | nil => intro k j v _ h; simp at h
  | cons w vs ih =>
    intro k j v hc h
    have h1 : w.category = 1 := hc w List.mem_cons_self
    unfold lv_args
    rw [if_neg (by rw [h1]; decide)]
    match j, h with
    | 0, h => cases h; exact List.mem_cons_self
    | j + 1, h =>
      have h2 := ih (k := k + 1) (j := j) (v := v) (fun z hz => hc z (List.mem_cons_of_mem _ hz)) (by simpa using h)
      rw [show k + 1 + j = k + (j + 1) by omega] at h2
      exact List.mem_cons_of_mem _ h2
theorem ax_entry {a base b : Nat} {As : List Value} (hc : ∀ v ∈ As, v.category = 1) (hl : As.length ≤ am_mL a) (m : MethodId) : ∃ ls, entryFrame m (As.map (am_tr base b)).toArray (am_mL a) = F0 m 0 ls [] ∧ am_lh ls (am_mL a) base b (am_L0 a As) := by
  have hc2 : ∀ v ∈ As.map (am_tr base b), v.category = 1 := fun v hv => by
    obtain ⟨w, hw, rfl⟩ := List.mem_map.mp hv
    rw [am_tr_cat]; exact hc w hw
  have hlen : (lg_sl (As.map (am_tr base b))).length ≤ am_mL a := by rw [ax_lg hc2, List.length_map]; exact hl
  have he := lv_entry (As.map (am_tr base b)) hlen
  refine ⟨_, lg_entry_eq m _ _, by unfold am_L0; simp; omega, he.1, he.2.1, fun q hq => he.2.2 q ?_⟩
  obtain ⟨v, h1, h2⟩ := am_lv_mem.mp hq
  unfold am_L0 at h1
  have hlt : q.1 < As.length := by
    rcases Nat.lt_or_ge q.1 As.length with z | z
    · exact z
    · rw [List.getElem?_append_right (by simpa using z), List.getElem?_replicate] at h1
      split at h1 <;> cases h1
  rw [List.getElem?_append_left (by simpa using hlt), List.getElem?_map] at h1
  obtain ⟨w, h3, h4⟩ := Option.map_eq_some_iff.mp h1
  cases h4
  have h5 := ax_lva (k := 0) (j := q.1) (v := am_tr base b v) hc2 (by rw [List.getElem?_map, h3]; rfl)
  rw [Nat.zero_add, ← h2] at h5
  exact h5
/-! contracts -/
def ax_Pc (al : Bool) (scr : Option Nat) (Dg : va_G) (base b : Nat) (cs : am_CS) (SK : List am_SC) (D : am_DD) (As : List Value) : Array Value → State → Prop := va_Pc (As.map (am_tr base b)) (fun U => ax_env Dg cs base U ∧ am_dyn al scr Dg base b cs SK D U.heap)
def ax_Qc (al : Bool) (scr : Option Nat) (Dg : va_G) (base b : Nat) (cs : am_CS) (SK : List am_SC) (D : am_DD) (v : Option Value) : Array Value → State → Outcome → State → Prop := fun _ st o t => o = .returned v ∧ am_dyn al scr Dg base b cs SK D t.heap ∧ va_F (fun q => base ≤ q) st t
def ax_XC (al : Bool) (scr : Option Nat) (Dg : va_G) (base b : Nat) (cs : am_CS) (SK : List am_SC) (D : am_DD) (E : Nat) : String → State → State → Prop := fun X st t => X = am_ename E ∧ am_dyn al scr Dg base b cs SK D t.heap ∧ va_F (fun q => base ≤ q) st t
theorem ax_blind {al : Bool} {scr : Option Nat} {Dg : va_G} {base b : Nat} {cs : am_CS} {SK : List am_SC} {D : am_DD} {As : List Value} : FrameBlind (ax_Pc al scr Dg base b cs SK D As) := fun _ U _ _ h => ⟨h.1, ax_env.moved (u := U) (State.WarmedH.refl U) (fun _ _ _ => rfl) h.2.1, h.2.2⟩
abbrev ax_ws (j : Nat) : List Cond := am_code j :: am_GW
theorem ax_tbl {p : Program} {l : Launch} {j : Nat} {rm : Room} {e : Env} {s s₁ : State} {m : MethodId} {args : Array Value} {below : List Frame} {meth : Method} {c : Code} (B : BodyLoose p l (am_y j) (headSpec (ax_ws j) rm) (am_b j) (am_mL j) (am_ret j) e s m args below meth c s₁) : c.exceptionTable.toList = tableOf (am_hh j) := by
  have hw : (am_code j).before args s = true := atoms_spec (ws := ax_ws j) B.pre _ List.mem_cons_self
  unfold am_code at hw
  by_cases h : am_hh j = []
  · rw [if_pos h] at hw
    obtain ⟨meth9, c9, h1, h2, -, -, -, -, h7, -⟩ := Cond.code_spec B.named hw
    cases Option.some.inj (h1.symm.trans B.method)
    cases Option.some.inj (h2.symm.trans (Stand.of_body B).code)
    rw [h, Array.isEmpty_iff.mp h7]
    rfl
  · rw [if_neg h] at hw
    exact vx_table (x := am_y j) B hw
theorem ax_ofW {l : Launch} {j : Nat} {rm : Room} {Pc : Array Value → State → Prop} {Qc : Array Value → State → Outcome → State → Prop} {XC : String → State → State → Prop} {mc ms : Nat} {free : Addr → Prop} (hj : j < 107)
    (body : ∀ p e s m args below meth c s₁, BodyLoose p l (am_y j) (headSpec (ax_ws j) rm) (am_b j) (am_mL j) (am_ret j) e s m args below meth c s₁ → c.maxLocals = am_mL j → Pc args s →
      W p l e (headSpec (ax_ws j) rm).room s m args below meth c s.heap [] 0 0 (vx_MQ below Qc XC args s mc ms free) (entryFrame m args (am_mL j))) : vx_Met l (am_y j) (ax_ws j) rm Pc Qc XC mc ms free := by
  have hy : plainName (am_y j).cls = true := List.all_eq_true.mp ax_plain_all j (List.mem_range.mpr hj)
  by_cases h : am_hh j = []
  · exact vx_ofW (cc := am_b j) (maxL := am_mL j) (ret := am_ret j) (ws' := am_GW) hy (by unfold ax_ws am_code; rw [if_pos h]) (fun p e s m args below meth c s₁ B hml _ hP => body p e s m args below meth c s₁ B hml hP)
  · exact vx_ofWH (cc := am_b j) (maxL := am_mL j) (ret := am_ret j) (hh := am_hh j) (ws' := am_GW) hy (by unfold ax_ws am_code; rw [if_neg h]) (fun p e s m args below meth c s₁ B hml hP => body p e s m args below meth c s₁ B hml hP)
theorem ax_met_of {l : Launch} {y : MethodName} {ws : List Cond} {rm : Room} {Pc : Array Value → State → Prop} {Qc : Array Value → State → Outcome → State → Prop} {mc ms : Nat} {free : Addr → Prop} (h : vx_Met l y ws rm Pc Qc (fun _ _ _ => False) mc ms free) : Met l y ws rm Pc Qc mc ms free := by
  intro p e h1 h2 h3 s m args below h4 h5 h6 h7
  obtain ⟨n, o, a1, a2, a3, a4⟩ := h p e h1 h2 h3 s m args below h4 h5 h6 h7
  refine ⟨n, o, a1, a2, a3, ?_⟩
  rcases a4 with a4 | ⟨q, -, E, ce, L, hx, -⟩
  · exact a4
  · exact hx.elim
/-- what am_run says is the machine's: the sentence -/
def ax_SIM (n : Nat) : Prop := ∀ (al : Bool) (scr : Option Nat) (i pc : Nat) (L : am_LL) (S : List Value) (SK : List am_SC) (D : am_DD) (r : am_R) (SK' : List am_SC) (D' : am_DD) (c1 s1 : Nat), am_run al n scr i pc L S SK D = some (r, SK', D', c1, s1) →
  ∀ (p : Program) (l : Launch) (e : Env) (R : Room) (s : State) (m : MethodId) (args : Array Value) (below : List Frame) (meth : Method) (c : Code) (H : Heap) (locs : List Loc) (cells slots : Nat) (Q : State → Prop) (Dg : va_G) (cs : am_CS) (base b : Nat) (ls : Array Slot),
    ax_ctx Dg cs base b scr p l R s m args meth c i → va_S (fun q => base ≤ q) s.heap H locs → am_dyn al scr Dg base b cs SK D H → am_lh ls (am_mL i) base b L → cells + c1 ≤ R.cells → slots + s1 ≤ R.slots →
    (∀ (H' : Heap) (locs' : List Loc) (ls' : Array Slot), va_S (fun q => base ≤ q) s.heap H' locs' → am_dyn al scr Dg base b cs SK' D' H' → am_lh ls' (am_mL i) base b r.2.1 → W p l e R s m args below meth c H' locs' (cells + c1) (slots + s1) Q (F0 m r.1 ls' (r.2.2.map (am_tr base b)))) →
    W p l e R s m args below meth c H locs cells slots Q (F0 m pc ls (S.map (am_tr base b)))
theorem ax_ctx_of {scr : Option Nat} {p : Program} {l : Launch} {j : Nat} {rm : Room} {e : Env} {s s₁ : State} {m : MethodId} {args : Array Value} {below : List Frame} {meth : Method} {c : Code} {Dg : va_G} {cs : am_CS} {base b : Nat} (hl : l.stackTraces = false) (B : BodyLoose p l (am_y j) (headSpec (ax_ws j) rm) (am_b j) (am_mL j) (am_ret j) e s m args below meth c s₁) (hml : c.maxLocals = am_mL j) (hE : ax_env Dg cs base s) (hf : am_fr j ≤ rm.frames) (hlo : am_lo j ≤ rm.locals) : ax_ctx Dg cs base b scr p l (headSpec (ax_ws j) rm).room s m args meth c j :=
  ⟨B.exec, B.bytes, hml, findClass_of_methodNamed B.named, fun w hw => atoms_spec (ws := ax_ws j) B.pre w (List.mem_cons_of_mem _ hw), hE, (name_of_methodNamed B.named B.method).1, hf, hlo, (fun _ _ => rfl), hl, ax_tbl B, B.notSynchronized, B.returns⟩
