/-! am_run IS THE MACHINE'S: one instruction, group by group -/
def am_ad (base b : Nat) (k : Nat) : Nat := if k = am_scr then b else base + k
def am_tr (base b : Nat) : Value → Value
  | .ref k => .ref (am_ad base b k)
  | v => v
theorem am_tr_cat (base b : Nat) (v : Value) : (am_tr base b v).category = v.category := by cases v <;> rfl
theorem am_words_map (base b : Nat) (S : List Value) : ((S.map (am_tr base b)).map fun v => v.category).sum = am_words S := by
  unfold am_words
  rw [List.map_map]
  congr 2
  funext v
  exact am_tr_cat base b v
/-- the known locals, as the kit lists them -/
def am_lv (base b : Nat) (L : am_LL) : List (Nat × Value) := (List.range L.length).filterMap (fun j => (L.getD j none).map (fun v => (j, am_tr base b v)))
theorem am_lv_mem {base b : Nat} {L : am_LL} {q : Nat × Value} : q ∈ am_lv base b L ↔ ∃ v, L[q.1]? = some (some v) ∧ q.2 = am_tr base b v := by
  unfold am_lv
  rw [List.mem_filterMap]
  constructor
  · rintro ⟨j, hj, h⟩
    rw [List.mem_range] at hj
    rw [List.getD_eq_getElem?_getD, List.getElem?_eq_getElem hj] at h
    cases hv : L[j] with
    | none => rw [hv] at h; simp at h
    | some v =>
      rw [hv] at h
      simp at h
      subst h
      exact ⟨v, by rw [List.getElem?_eq_getElem hj, hv], rfl⟩
  · rintro ⟨v, h1, h2⟩
    have hl : q.1 < L.length := (List.getElem?_eq_some_iff.mp h1).1
    refine ⟨q.1, List.mem_range.mpr hl, ?_⟩
    rw [List.getD_eq_getElem?_getD, h1]
    simp [← h2]
theorem am_lv_of {base b j : Nat} {L : am_LL} {v : Value} (h : L[j]? = some (some v)) : (j, am_tr base b v) ∈ am_lv base b L := am_lv_mem.mpr ⟨v, h, rfl⟩
def am_lh (ls : Array Slot) (nL base b : Nat) (L : am_LL) : Prop := L.length = nL ∧ lv_has ls nL (am_lv base b L)
theorem am_lh_at {ls : Array Slot} {nL base b : Nat} {L : am_LL} (h : am_lh ls nL base b L) {j : Nat} {v : Value} (hv : L[j]? = some (some v)) : ls[j]? = some (.val (am_tr base b v)) := h.2.2.2 (j, am_tr base b v) (am_lv_mem.mpr ⟨v, hv, rfl⟩)
theorem am_clear_spec {L : am_LL} {i j : Nat} {w : Value} (h : am_clear L i = true) (hj : L[j]? = some (some w)) (hi : j + 1 = i) : w.category = 1 := by
  subst hi
  unfold am_clear at h
  simp only [List.getD_eq_getElem?_getD, hj] at h
  simpa using h
theorem am_lh_weak {ls : Array Slot} {nL base b : Nat} {L L' : am_LL} (h : am_lh ls nL base b L) (hl : L'.length = nL) (hs : ∀ (j : Nat) (v : Value), L'[j]? = some (some v) → L[j]? = some (some v)) : am_lh ls nL base b L' := by
  refine ⟨hl, h.2.1, h.2.2.1, fun q hq => ?_⟩
  obtain ⟨v, h1, h2⟩ := am_lv_mem.mp hq
  exact h.2.2.2 q (am_lv_mem.mpr ⟨v, hs _ _ h1, h2⟩)
theorem am_lh_st1 {ls ls' : Array Slot} {nL base b i : Nat} {L : am_LL} {v : Value} (hL : am_lh ls nL base b L) (hc : am_clear L i = true) (hi : i < nL)
    (h : lv_has ls' nL ((i, am_tr base b v) :: (am_lv base b L).filter (fun q => !(q.1 == i) && !(q.1 + 1 == i && q.2.category == 2)))) : am_lh ls' nL base b (L.set i (some v)) := by
  refine ⟨by rw [List.length_set]; exact hL.1, h.1, h.2.1, fun q hq => ?_⟩
  obtain ⟨w, h1, h2⟩ := am_lv_mem.mp hq
  by_cases hqi : q.1 = i
  · have h3 : (L.set i (some v))[q.1]? = some (some v) := by rw [hqi, List.getElem?_set_self (by rw [hL.1]; exact hi)]
    rw [h3] at h1
    cases h1
    refine h.2.2 q (List.mem_cons.mpr (Or.inl ?_))
    rw [← hqi, ← h2]
  · rw [List.getElem?_set_ne (fun e => hqi e.symm)] at h1
    refine h.2.2 q (List.mem_cons.mpr (Or.inr (List.mem_filter.mpr ⟨am_lv_mem.mpr ⟨w, h1, h2⟩, ?_⟩)))
    have hcat : q.1 + 1 = i → q.2.category = 1 := fun e => by rw [h2, am_tr_cat]; exact am_clear_spec hc h1 e
    simp only [Bool.and_eq_true, Bool.not_eq_true', beq_eq_false_iff_ne, ne_eq, Bool.and_eq_false_iff]
    refine ⟨hqi, ?_⟩
    by_cases e : q.1 + 1 = i
    · right
      rw [hcat e]; decide
    · left; exact e
theorem am_lh_st2 {ls ls' : Array Slot} {nL base b i : Nat} {L : am_LL} {v : Value} (hL : am_lh ls nL base b L) (hc : am_clear L i = true) (hi : i + 1 < nL)
    (h : lv_has ls' nL ((i, am_tr base b v) :: (am_lv base b L).filter (fun q => !(q.1 == i) && (!(q.1 == i + 1) && !(q.1 + 1 == i && q.2.category == 2))))) : am_lh ls' nL base b ((L.set i (some v)).set (i + 1) none) := by
  refine ⟨by rw [List.length_set, List.length_set]; exact hL.1, h.1, h.2.1, fun q hq => ?_⟩
  obtain ⟨w, h1, h2⟩ := am_lv_mem.mp hq
  by_cases hq1 : q.1 = i + 1
  · rw [hq1, List.getElem?_set_self (by rw [List.length_set, hL.1]; exact hi)] at h1
    cases h1
  · rw [List.getElem?_set_ne (fun e => hq1 e.symm)] at h1
    by_cases hqi : q.1 = i
    · have h3 : (L.set i (some v))[q.1]? = some (some v) := by rw [hqi, List.getElem?_set_self (by rw [hL.1]; omega)]
      rw [h3] at h1
      cases h1
      refine h.2.2 q (List.mem_cons.mpr (Or.inl ?_))
      rw [← hqi, ← h2]
    · rw [List.getElem?_set_ne (fun e => hqi e.symm)] at h1
      refine h.2.2 q (List.mem_cons.mpr (Or.inr (List.mem_filter.mpr ⟨am_lv_mem.mpr ⟨w, h1, h2⟩, ?_⟩)))
      have hcat : q.1 + 1 = i → q.2.category = 1 := fun e => by rw [h2, am_tr_cat]; exact am_clear_spec hc h1 e
      simp only [Bool.and_eq_true, Bool.not_eq_true', beq_eq_false_iff_ne, ne_eq, Bool.and_eq_false_iff]
      refine ⟨hqi, hq1, ?_⟩
      by_cases e : q.1 + 1 = i
      · right
        rw [hcat e]; decide
      · left; exact e
section AMS
variable {p : Program} {l : Launch} {e : Env} {R : Room} {s : State} {m : MethodId} {args : Array Value} {below : List Frame} {meth : Method} {c : Code} {H : Heap} {locs : List Loc} {cells slots : Nat} {Q : State → Prop}
variable {pc len a b0 i base b : Nat} {ls : Array Slot} {ins : Instr}
set_option maxHeartbeats 2000000 in
theorem am_sim_stk (hx : p.tables.exec = Jvm.exec) (hb : c.code = am_b i) {S S' : List Value} (hd : decode (am_b i) pc = .ok (ins, len)) (hc : am_chk i (pc, ins, len, 0, a, b0) = true) (h : am_stk ins S = some S')
    (k : W p l e R s m args below meth c H locs cells slots Q (F0 m (pc + len) ls (S'.map (am_tr base b)))) : W p l e R s m args below meth c H locs cells slots Q (F0 m pc ls (S.map (am_tr base b))) := by
  unfold am_stk at h
  split at h
  · cases h; obtain rfl : len = 1 := by simpa [am_chk] using hc
    exact lv_iconst hx hb hd rfl k
  · cases h; obtain rfl : len = 2 := by simpa [am_chk] using hc
    exact lv_bipush hx hb hd rfl k
  · cases h; obtain rfl : len = 3 := by simpa [am_chk] using hc
    exact lv_sipush hx hb hd rfl k
  · split at h
    next h0 =>
      cases h; obtain rfl : len = 1 := by simpa [am_chk] using hc
      subst h0
      exact lv_fconst0 hx hb hd k
    next => cases h
  · cases h; obtain rfl : len = 1 := by simpa [am_chk] using hc
    exact lv_iadd hx hb hd k
  · cases h; obtain rfl : len = 1 := by simpa [am_chk] using hc
    exact lv_isub hx hb hd k
  · cases h; obtain rfl : len = 1 := by simpa [am_chk] using hc
    exact lv_imul hx hb hd k
  · split at h
    next => cases h
    next h0 =>
      cases h; obtain rfl : len = 1 := by simpa [am_chk] using hc
      exact lv_idiv hx hb hd h0 k
  · split at h
    next => cases h
    next h0 =>
      cases h; obtain rfl : len = 1 := by simpa [am_chk] using hc
      exact lv_irem hx hb hd h0 k
  · cases h; obtain rfl : len = 1 := by simpa [am_chk] using hc
    exact lv_iand hx hb hd k
  · cases h; obtain rfl : len = 1 := by simpa [am_chk] using hc
    exact lv_ior hx hb hd k
  · cases h; obtain rfl : len = 1 := by simpa [am_chk] using hc
    exact lv_ishl hx hb hd k
  · cases h; obtain rfl : len = 1 := by simpa [am_chk] using hc
    exact lv_ishr hx hb hd k
  · cases h; obtain rfl : len = 1 := by simpa [am_chk] using hc
    exact lv_fcmp hx hb hd k
  · cases h; obtain rfl : len = 1 := by simpa [am_chk] using hc
    exact lv_iushr hx hb hd rfl k
  · cases h; obtain rfl : len = 1 := by simpa [am_chk] using hc
    exact lv_i2l hx hb hd rfl k
  · cases h; obtain rfl : len = 1 := by simpa [am_chk] using hc
    exact lv_i2f hx hb hd k
  · split at h
    next h0 =>
      cases h; obtain rfl : len = 1 := by simpa [am_chk] using hc
      exact lv_f2d hx hb hd h0 k
    next => cases h
  · split at h
    next h0 =>
      cases h; obtain rfl : len = 1 := by simpa [am_chk] using hc
      exact lv_fdiv hx hb hd h0 k
    next => cases h
  · cases h; obtain rfl : len = 1 := by simpa [am_chk] using hc
    exact W.lcmp hx hb hd k
  · cases h; obtain rfl : len = 1 := by simpa [am_chk] using hc
    exact lv_dcmp hx hb hd k
  · split at h
    next h0 =>
      cases h; obtain rfl : len = 1 := by simpa [am_chk] using hc
      exact lv_dup hx hb hd (by rw [am_tr_cat]; exact h0) k
    next => cases h
  · split at h
    next h0 =>
      cases h; obtain rfl : len = 1 := by simpa [am_chk] using hc
      exact lv_dup2_11 hx hb hd (by rw [am_tr_cat]; exact h0.1) (by rw [am_tr_cat]; exact h0.2) k
    next => cases h
  · split at h
    next h0 =>
      cases h; obtain rfl : len = 1 := by simpa [am_chk] using hc
      exact lv_pop hx hb hd (by rw [am_tr_cat]; exact h0) k
    next => cases h
  · cases h
theorem am_getD {L : am_LL} {j : Nat} {v : Value} (h : L.getD j none = some v) : L[j]? = some (some v) := by
  rw [List.getD_eq_getElem?_getD] at h
  cases hj : L[j]? with
  | none => rw [hj] at h; cases h
  | some x => rw [hj] at h; simp at h; rw [h]
theorem am_ld_spec {f : Value → Bool} {L L' : am_LL} {j : Nat} {S S' : List Value} (h : am_ld f L j S = some (L', S')) : ∃ v, L[j]? = some (some v) ∧ f v = true ∧ L' = L ∧ S' = v :: S := by
  unfold am_ld at h
  split at h
  next v hv =>
    split at h
    next hf =>
      cases h
      exact ⟨v, am_getD hv, hf, rfl, rfl⟩
    next => cases h
  next => cases h
theorem am_st1_spec {L L' : am_LL} {j : Nat} {v : Value} {S S0 : List Value} (h : (am_st1 L j v).map (fun L' => (L', S0)) = some (L', S)) : S = S0 ∧ L' = L.set j (some v) ∧ j < L.length ∧ am_clear L j = true := by
  unfold am_st1 at h
  split at h
  next hc => cases h; exact ⟨rfl, rfl, hc.1, hc.2.2⟩
  next => cases h
theorem am_st2_spec {L L' : am_LL} {j : Nat} {v : Value} {S S0 : List Value} (h : (am_st2 L j v).map (fun L' => (L', S0)) = some (L', S)) : S = S0 ∧ L' = (L.set j (some v)).set (j + 1) none ∧ j + 1 < L.length ∧ am_clear L j = true := by
  unfold am_st2 at h
  split at h
  next hc => cases h; exact ⟨rfl, rfl, hc.1, hc.2.2⟩
  next => cases h
set_option maxHeartbeats 2000000 in
theorem am_sim_loc {nL : Nat} (hx : p.tables.exec = Jvm.exec) (hb : c.code = am_b i) {L L' : am_LL} {S S' : List Value} (hd : decode (am_b i) pc = .ok (ins, len)) (hc : am_chk i (pc, ins, len, 1, a, b0) = true) (hl : am_lh ls nL base b L) (h : am_loc ins L S = some (L', S'))
    (k : ∀ ls' : Array Slot, am_lh ls' nL base b L' → W p l e R s m args below meth c H locs cells slots Q (F0 m (pc + len) ls' (S'.map (am_tr base b)))) : W p l e R s m args below meth c H locs cells slots Q (F0 m pc ls (S.map (am_tr base b))) := by
  unfold am_loc at h
  split at h
  · obtain ⟨v, h1, h2, rfl, rfl⟩ := am_ld_spec h
    obtain rfl : len = 1 := by simpa [am_chk] using hc
    cases v <;> first | (cases h2; done) | exact lv_iload_n hx hb hd rfl (am_lh_at hl h1) (k ls hl)
  · obtain ⟨v, h1, h2, rfl, rfl⟩ := am_ld_spec h
    obtain rfl : len = 2 := by simpa [am_chk] using hc
    cases v <;> first | (cases h2; done) | exact lv_iload hx hb hd (am_lh_at hl h1) (k ls hl)
  · obtain ⟨v, h1, h2, rfl, rfl⟩ := am_ld_spec h
    obtain rfl : len = 1 := by simpa [am_chk] using hc
    cases v <;> first | (cases h2; done) | exact lv_aload_n hx hb hd rfl (am_lh_at hl h1) (k ls hl)
  · obtain ⟨v, h1, h2, rfl, rfl⟩ := am_ld_spec h
    obtain rfl : len = 2 := by simpa [am_chk] using hc
    cases v <;> first | (cases h2; done) | exact lv_aload hx hb hd (am_lh_at hl h1) (k ls hl)
  · obtain ⟨v, h1, h2, rfl, rfl⟩ := am_ld_spec h
    obtain rfl : len = 1 := by simpa [am_chk] using hc
    cases v <;> first | (cases h2; done) | exact lv_dload_n hx hb hd rfl (am_lh_at hl h1) (k ls hl)
  · obtain ⟨v, h1, h2, rfl, rfl⟩ := am_ld_spec h
    obtain rfl : len = 2 := by simpa [am_chk] using hc
    cases v <;> first | (cases h2; done) | exact lv_dload hx hb hd (am_lh_at hl h1) (k ls hl)
  · obtain ⟨rfl, rfl, h1, h2⟩ := am_st1_spec h
    obtain rfl : len = 1 := by simpa [am_chk] using hc
    exact lv_istore_n hx hb hd rfl hl.2 (by rw [← hl.1]; exact h1) rfl fun ls' h' => k ls' (am_lh_st1 hl h2 (by rw [← hl.1]; exact h1) h')
  · obtain ⟨rfl, rfl, h1, h2⟩ := am_st1_spec h
    obtain rfl : len = 2 := by simpa [am_chk] using hc
    exact lv_istore hx hb hd hl.2 (by rw [← hl.1]; exact h1) rfl fun ls' h' => k ls' (am_lh_st1 hl h2 (by rw [← hl.1]; exact h1) h')
  · obtain ⟨rfl, rfl, h1, h2⟩ := am_st1_spec h
    obtain rfl : len = 1 := by simpa [am_chk] using hc
    exact lv_astore_n hx hb hd rfl hl.2 (by rw [← hl.1]; exact h1) rfl fun ls' h' => k ls' (am_lh_st1 hl h2 (by rw [← hl.1]; exact h1) h')
  · obtain ⟨rfl, rfl, h1, h2⟩ := am_st1_spec h
    obtain rfl : len = 2 := by simpa [am_chk] using hc
    exact lv_astore hx hb hd hl.2 (by rw [← hl.1]; exact h1) rfl fun ls' h' => k ls' (am_lh_st1 hl h2 (by rw [← hl.1]; exact h1) h')
  · obtain ⟨rfl, rfl, h1, h2⟩ := am_st2_spec h
    obtain rfl : len = 1 := by simpa [am_chk] using hc
    exact lv_dstore_n hx hb hd rfl hl.2 (by rw [← hl.1]; exact h1) rfl fun ls' h' => k ls' (am_lh_st2 hl h2 (by rw [← hl.1]; exact h1) h')
  · obtain ⟨rfl, rfl, h1, h2⟩ := am_st2_spec h
    obtain rfl : len = 2 := by simpa [am_chk] using hc
    exact lv_dstore hx hb hd hl.2 (by rw [← hl.1]; exact h1) rfl fun ls' h' => k ls' (am_lh_st2 hl h2 (by rw [← hl.1]; exact h1) h')
  · split at h
    next x hv =>
      have h0 := am_getD hv
      obtain ⟨rfl, rfl, h1, h2⟩ := am_st1_spec h
      obtain rfl : len = 3 := by simpa [am_chk] using hc
      obtain ⟨kk, hk⟩ := List.getElem?_of_mem (am_lv_of (base := base) (b := b) h0)
      exact lv_iinc hx hb hd hl.2 hk rfl (by rw [← hl.1]; exact h1) rfl fun ls' h' => k ls' (am_lh_st1 hl h2 (by rw [← hl.1]; exact h1) h')
    next => cases h
  · cases h
theorem am_jump_spec {pc pc' : Nat} {off : Int} {S S' : List Value} (h : am_jump pc off S = some (pc', S')) : (pc : Int) + off = (pc' : Int) ∧ S' = S := by
  unfold am_jump at h
  split at h
  next h0 =>
    cases h
    exact ⟨by omega, rfl⟩
  next => cases h
theorem am_go_spec {cnd : Bool} {a pc pc' : Nat} {S S' : List Value} (h : am_go cnd a pc S = some (pc', S')) : S' = S ∧ pc' = if cnd = true then a else pc + 3 := by
  unfold am_go at h
  cases h
  exact ⟨rfl, rfl⟩
set_option maxHeartbeats 2000000 in
theorem am_sim_br (hx : p.tables.exec = Jvm.exec) (hb : c.code = am_b i) {pc' : Nat} {S S' : List Value} (hd : decode (am_b i) pc = .ok (ins, len)) (hc : am_chk i (pc, ins, len, 2, a, b0) = true) (h : am_br ins a pc S = some (pc', S'))
    (k : W p l e R s m args below meth c H locs cells slots Q (F0 m pc' ls (S'.map (am_tr base b)))) : W p l e R s m args below meth c H locs cells slots Q (F0 m pc ls (S.map (am_tr base b))) := by
  unfold am_br at h
  split at h
  · cases h; obtain ⟨h1, rfl⟩ : (pc : Int) + _ = (a : Int) ∧ len = 3 := by simpa [am_chk] using hc
    exact lv_goto hx hb hd h1 k
  · obtain ⟨rfl, rfl⟩ := am_go_spec h; obtain ⟨h1, rfl⟩ : (pc : Int) + _ = (a : Int) ∧ len = 3 := by simpa [am_chk] using hc
    exact lv_if_eq hx hb hd h1 (fun q => by simpa [q] using k) (fun q => by simpa [q] using k)
  · obtain ⟨rfl, rfl⟩ := am_go_spec h; obtain ⟨h1, rfl⟩ : (pc : Int) + _ = (a : Int) ∧ len = 3 := by simpa [am_chk] using hc
    exact lv_if_ne hx hb hd h1 (fun q => by simpa [q] using k) (fun q => by simpa [q] using k)
  · obtain ⟨rfl, rfl⟩ := am_go_spec h; obtain ⟨h1, rfl⟩ : (pc : Int) + _ = (a : Int) ∧ len = 3 := by simpa [am_chk] using hc
    exact lv_if_lt hx hb hd h1 (fun q => by simpa only [q, decide_true, if_true] using k) (fun q => by rw [if_neg (by simpa using q)] at k; exact k)
  · obtain ⟨rfl, rfl⟩ := am_go_spec h; obtain ⟨h1, rfl⟩ : (pc : Int) + _ = (a : Int) ∧ len = 3 := by simpa [am_chk] using hc
    exact lv_if_ge hx hb hd h1 (fun q => by rw [if_pos (by simpa using q)] at k; exact k) (fun q => by rw [if_neg (by simpa using q)] at k; exact k)
  · obtain ⟨rfl, rfl⟩ := am_go_spec h; obtain ⟨h1, rfl⟩ : (pc : Int) + _ = (a : Int) ∧ len = 3 := by simpa [am_chk] using hc
    exact lv_if_gt hx hb hd h1 (fun q => by rw [if_pos (by simpa using q)] at k; exact k) (fun q => by rw [if_neg (by simpa using q)] at k; exact k)
  · obtain ⟨rfl, rfl⟩ := am_go_spec h; obtain ⟨h1, rfl⟩ : (pc : Int) + _ = (a : Int) ∧ len = 3 := by simpa [am_chk] using hc
    exact lv_if_le hx hb hd h1 (fun q => by rw [if_pos (by simpa using q)] at k; exact k) (fun q => by rw [if_neg (by simpa using q)] at k; exact k)
  · obtain ⟨rfl, rfl⟩ := am_go_spec h; obtain ⟨h1, rfl⟩ : (pc : Int) + _ = (a : Int) ∧ len = 3 := by simpa [am_chk] using hc
    exact lv_icmp_eq hx hb hd h1 (fun q => by rw [if_pos (by simpa using q)] at k; exact k) (fun q => by rw [if_neg (by simpa using q)] at k; exact k)
  · obtain ⟨rfl, rfl⟩ := am_go_spec h; obtain ⟨h1, rfl⟩ : (pc : Int) + _ = (a : Int) ∧ len = 3 := by simpa [am_chk] using hc
    exact lv_icmp_ne hx hb hd h1 (fun q => by rw [if_pos (by simpa using q)] at k; exact k) (fun q => by rw [if_neg (by simpa using q)] at k; exact k)
  · obtain ⟨rfl, rfl⟩ := am_go_spec h; obtain ⟨h1, rfl⟩ : (pc : Int) + _ = (a : Int) ∧ len = 3 := by simpa [am_chk] using hc
    exact lv_icmp_lt hx hb hd h1 (fun q => by rw [if_pos (by simpa using q)] at k; exact k) (fun q => by rw [if_neg (by simpa using q)] at k; exact k)
  · obtain ⟨rfl, rfl⟩ := am_go_spec h; obtain ⟨h1, rfl⟩ : (pc : Int) + _ = (a : Int) ∧ len = 3 := by simpa [am_chk] using hc
    exact lv_icmp_ge hx hb hd h1 (fun q => by rw [if_pos (by simpa using q)] at k; exact k) (fun q => by rw [if_neg (by simpa using q)] at k; exact k)
  · obtain ⟨rfl, rfl⟩ := am_go_spec h; obtain ⟨h1, rfl⟩ : (pc : Int) + _ = (a : Int) ∧ len = 3 := by simpa [am_chk] using hc
    exact lv_icmp_gt hx hb hd h1 (fun q => by rw [if_pos (by simpa using q)] at k; exact k) (fun q => by rw [if_neg (by simpa using q)] at k; exact k)
  · obtain ⟨rfl, rfl⟩ := am_go_spec h; obtain ⟨h1, rfl⟩ : (pc : Int) + _ = (a : Int) ∧ len = 3 := by simpa [am_chk] using hc
    exact lv_icmp_le hx hb hd h1 (fun q => by rw [if_pos (by simpa using q)] at k; exact k) (fun q => by rw [if_neg (by simpa using q)] at k; exact k)
  · cases h; obtain ⟨h1, rfl⟩ : (pc : Int) + _ = (a : Int) ∧ len = 3 := by simpa [am_chk] using hc
    exact lv_ifnull hx hb hd k
  · cases h; obtain ⟨h1, rfl⟩ : (pc : Int) + _ = (a : Int) ∧ len = 3 := by simpa [am_chk] using hc
    exact lv_ifnullN hx hb hd h1 k
  · split at h
    next h0 =>
      obtain ⟨h1, rfl⟩ := am_jump_spec h
      exact lv_tableOut hx hb hd h0 h1 k
    next h0 =>
      split at h
      next off ho =>
        obtain ⟨h1, rfl⟩ := am_jump_spec h
        exact lv_tableIn hx hb hd (fun q => h0 (Or.inl q)) (fun q => h0 (Or.inr q)) ho h1 k
      next => cases h
  · obtain ⟨h1, rfl⟩ := am_jump_spec h
    exact lv_lookup hx hb hd (by simpa [am_chk] using hc) rfl h1 k
  · cases h
end AMS
