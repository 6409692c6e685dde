/-! the law from its entry, over what is wanted of each call -/
theorem ay_and31 (v : Int32) : (v &&& 31).toInt = v.toInt % 32 := by
  have h : (v &&& 31).toBitVec = v.toBitVec &&& 31#32 := by rw [Int32.toBitVec_and]; rfl
  show ((v &&& 31).toBitVec).toInt = v.toBitVec.toInt % 32
  rw [h]
  generalize v.toBitVec = x
  rw [BitVec.toInt_eq_toNat_cond, BitVec.toInt_eq_toNat_cond, BitVec.toNat_and]
  have h2 : x.toNat &&& (31#32).toNat = x.toNat % 32 := by
    show x.toNat &&& (2 ^ 5 - 1) = _
    rw [Nat.and_two_pow_sub_one_eq_mod]
  rw [h2]
  split <;> split <;> omega
/-! the environment at the law's entry -/
set_option maxRecDepth 100000 in
theorem ax_insts : ∀ ci, ci < 12 → (lw_tbl.any (fun z => decide (Cond.instantiable (am_cls ci).1 (am_cls ci).2.2 = z))) = true := by decide +kernel
theorem ax_any {w : Cond} (h : (lw_tbl.any (fun z => decide (w = z))) = true) : w ∈ lw_tbl := by
  obtain ⟨z, hz, h2⟩ := List.any_eq_true.mp h
  rw [of_decide_eq_true h2]
  exact hz
def ax_narrow : List Cond := flatC (Jvm.Cond.and given_1 narrow_1)
theorem ax_anyn {w : Cond} (h : (ax_narrow.any (fun z => decide (w = z))) = true) : w ∈ ax_narrow := by
  obtain ⟨z, hz, h2⟩ := List.any_eq_true.mp h
  rw [of_decide_eq_true h2]
  exact hz
set_option maxRecDepth 100000 in
theorem ax_txt1 : ax_txt.all (fun q => (lw_tbl.any (fun z => decide (Cond.stringRef RX10 q.1 q.2 = z)))) = true := by decide +kernel
set_option maxRecDepth 100000 in
theorem ax_txt2 : ax_txt.all (fun q => (ax_narrow.any (fun z => decide (Cond.exactly (.string RX10 q.1) "java/lang/String" = z)))) = true := by decide +kernel
set_option maxRecDepth 100000 in
theorem ax_ncs : (am_en.all (fun a => am_en.all (fun b => a == b || (ax_narrow.any (fun z => decide (Cond.not (.castable a b) = z)))))) = true := by decide +kernel
set_option maxRecDepth 100000 in
theorem ax_statics : ((lw_tbl ++ ax_narrow).any (fun z => decide (Cond.laysStatic Bundle.tN "UNASSIGNED_STACK" Bundle.steD = z)) && ((lw_tbl ++ ax_narrow).any (fun z => decide (Cond.laysStatic Bundle.tN "SUPPRESSED_SENTINEL" Bundle.listD = z)) && ((lw_tbl ++ ax_narrow).any (fun z => decide (Cond.initialized Bundle.tN = z)) && ((lw_tbl ++ ax_narrow).any (fun z => decide (Cond.isRef (.static Bundle.tN "UNASSIGNED_STACK" Bundle.steD) = z)) && (lw_tbl ++ ax_narrow).any (fun z => decide (Cond.isRef (.static Bundle.tN "SUPPRESSED_SENTINEL" Bundle.listD) = z)))))) = true := by decide +kernel
set_option maxRecDepth 100000 in
theorem ax_arrs : (lw_tbl.any (fun z => decide (Cond.arrayClass .int = z)) && (lw_tbl.any (fun z => decide (Cond.arrayClass .boolean = z)) && (lw_tbl.any (fun z => decide (Cond.arrayClass .long = z)) && lw_tbl.any (fun z => decide (Cond.arrayOver (.object RX7) = z))))) = true := by decide +kernel
theorem ax_arr1 {args : Array Value} {s : State} {ty : FieldType} (h : (Cond.arrayClass ty).before args s = true) (hno : ∀ n, ty ≠ .object n) : ∃ cA, ArrOfT s cA ty ∧ s.vm.findClass ("[" ++ ty.toString) = some cA := by
  obtain ⟨c, k, comp, h1, h2, h3⟩ := Cond.arrayClass_spec (args := args) (first := s) (o := none) (s := s) (idx := []) h
  exact ⟨c, fun n z => ⟨(fun k h => by cases h), k, h2, comp, h3⟩, h1⟩
set_option maxHeartbeats 4000000 in
theorem ax_begin {s : State} {b : Nat} (hts : ∀ w ∈ lw_tbl, w.before #[Value.ref b] s = true) (hgv : (Jvm.Cond.and given_1 narrow_1).before #[Value.ref b] s = true) : ∃ (Dg : va_G) (cs : am_CS), ax_env Dg cs s.heap.size s ∧ am_dyn true Dg s.heap.size b cs [] (fun _ _ => 0) s.heap := by
  have hfl : ∀ w ∈ ax_narrow, w.before #[Value.ref b] s = true := flat_of_before _ hgv
  have hGW : ∀ w ∈ am_GW, w.before #[Value.ref b] s = true := fun w hw => hts w (List.mem_filter.mp hw).1
  have hall : ∀ w ∈ lw_tbl ++ ax_narrow, w.before #[Value.ref b] s = true := fun w hw => (List.mem_append.mp hw).elim (hts w) (hfl w)
  have hcl : ∀ ci : Nat, ∃ (cC : ClassId) (iS : Nat → Nat), ci < 12 → u_Kn s (am_cls ci).1 (am_cls ci).2.1 (am_cls ci).2.2 cC iS := by
    intro ci
    by_cases h : ci < 12
    · obtain ⟨k1, k2, -, -⟩ := am_cls_ok ci h
      obtain ⟨cC, iS, hK⟩ := u_known (C := (am_cls ci).1) (T := (am_cls ci).2.1) (N := (am_cls ci).2.2) (n := (am_cls ci).2.2) hGW k2 (hts _ (ax_any (ax_insts ci h)))
      exact ⟨cC, iS, fun _ => hK⟩
    · exact ⟨0, fun _ => 0, fun h2 => absurd h2 h⟩
  have harr := ax_arrs
  simp only [Bool.and_eq_true] at harr
  obtain ⟨a1, a2, a3, a4⟩ := harr
  obtain ⟨cI, hI1, hI2⟩ := ax_arr1 (hts _ (ax_any a1)) (fun n h => by cases h)
  obtain ⟨cZ, hZ1, hZ2⟩ := ax_arr1 (hts _ (ax_any a2)) (fun n h => by cases h)
  obtain ⟨cJ, hJ1, hJ2⟩ := ax_arr1 (hts _ (ax_any a3)) (fun n h => by cases h)
  obtain ⟨comp, cO, kO, o1, -, o3, o4, o5⟩ := Cond.arrayOver_spec (args := #[Value.ref b]) (first := s) (o := none) (s := s) (idx := []) (hts _ (ax_any a4))
  have hO1 : ArrOfT s cO (.object RX7) := fun n z => ⟨(fun k h => by cases h), kO, o3, comp, o4⟩
  refine ⟨(fun c => Classical.choose (hcl c), fun c => Classical.choose (Classical.choose_spec (hcl c))), (cI, cZ, cJ, cO), ⟨⟨fun c q hq => ?_, fun k q hq => ?_⟩, fun w hw => va_Nw.of (ax_nest_tab (List.mem_filter.mp hw).2) (hts _ (List.mem_filter.mp hw).1), va_AO.of (hts _ (ax_any a4)), fun q hq => ?_, ?_, ?_, fun x hx y hy hxy => ?_⟩, fun k sc hk => by simp at hk, Nat.le_refl _, fun _ => ⟨by simp, fun _ _ _ => rfl⟩⟩
  · have hc : c < 12 := by
      have := (List.getElem?_eq_some_iff.mp hq).1
      simpa [vwCl] using this
    obtain ⟨k1, -, -, -⟩ := am_cls_ok c hc
    have h2 := Classical.choose_spec (Classical.choose_spec (hcl c)) hc
    have e : q = am_cls c := Option.some.inj (hq.symm.trans k1)
    rw [e]
    exact h2
  · match k, hq with
    | 0, hq => cases hq; exact ⟨hI1, hI2⟩
    | 1, hq => cases hq; exact ⟨hZ1, hZ2⟩
    | 2, hq => cases hq; exact ⟨hJ1, hJ2⟩
    | 3, hq => cases hq; exact ⟨hO1, kO, comp, o3, o4, o1, o5⟩
    | k + 4, hq => simp [am_tyl] at hq
  · have h1 := hts _ (ax_any (List.all_eq_true.mp ax_txt1 q hq))
    have h2 := hfl _ (ax_anyn (List.all_eq_true.mp ax_txt2 q hq))
    obtain ⟨sa, c, cell, k, q1, -⟩ := Cond.exactly_spec (args := #[Value.ref b]) (first := s) (o := none) (s := s) (idx := []) h2
    refine ⟨sa, ?_, ?_⟩
    · exact h1
    · exact q1
  · have h := ax_statics
    simp only [Bool.and_eq_true] at h
    obtain ⟨h1, h2, h3, h4, h5⟩ := h
    have mk : ∀ {w : Cond}, (lw_tbl ++ ax_narrow).any (fun z => decide (w = z)) = true → w.before #[Value.ref b] s = true := fun {w} hw => by
      obtain ⟨z, hz, e⟩ := List.any_eq_true.mp hw
      rw [of_decide_eq_true e]
      exact hall z hz
    exact vx_Zqof (mk h1) (mk h3) (mk h4) (fun a ha => Nat.not_le.mpr ha)
  · have h := ax_statics
    simp only [Bool.and_eq_true] at h
    obtain ⟨h1, h2, h3, h4, h5⟩ := h
    have mk : ∀ {w : Cond}, (lw_tbl ++ ax_narrow).any (fun z => decide (w = z)) = true → w.before #[Value.ref b] s = true := fun {w} hw => by
      obtain ⟨z, hz, e⟩ := List.any_eq_true.mp hw
      rw [of_decide_eq_true e]
      exact hall z hz
    exact vx_Zqof (mk h2) (mk h3) (mk h5) (fun a ha => Nat.not_le.mpr ha)
  · have h1 := List.all_eq_true.mp (List.all_eq_true.mp ax_ncs x hx) y hy
    simp only [Bool.or_eq_true, beq_iff_eq, hxy, false_or] at h1
    exact va_Nc.of (hfl _ (ax_anyn h1))
/-! the law from its entry, over what is wanted of its calls -/
def ay_ok (Inv : Nat → am_DD → Prop) : Prop :=
  (∀ D : am_DD, (∀ a, a < 330 → a ≠ 323 → a ≠ 324 → ∀ k, k < ay_size (ay_SK.getD a (.inr (0, 0, []))) → D a k = ay_D0 a k) → Inv 0 D) ∧
  ∀ (k n : Nat) (xs : Nat → Int32) (D : am_DD), Inv k D → n ≤ 2048 → 4 * k + 4 ≤ n → ∃ D' c s, c ≤ 1 ∧ s ≤ 6 ∧ ay_lw n xs (Int32.ofNat (4 * k)) D D' c s ∧ Inv (k + 1) D'
def R_law : String := "MarbleGatesLaw"
def lw_P (b : Addr) (xs : List Int32) (args : Array Value) (s : State) : Prop := args = #[.ref b] ∧ s.IntsAt b xs ∧ xs.length ≤ 2048 ∧ (Jvm.Cond.and given_1 narrow_1).before args s = true
/-- what a walk over the start with the record d0 says of its end, said of the start itself -/
theorem lw_closed {s t : State} {o : Outcome} {d0 : Drawn} {L : List Loc} {k n : Nat} (hd0 : s.drawn.sameBut d0 lw_cs) (hv : ∃ v, o = .returned v) (hW : (s.setDrawn d0).WarmedH t.vm) (hs : (s.setDrawn d0).sameButNew ({ t with vm := s.vm } : State) L k n) : State.butDraws s t lw_cs (fun t1 => Framed s o t1 L k n) := by
  have h2 : t.drawn = d0 := congrArg State.drawn hs.1
  refine ⟨⟨hv, hW, State.sameButNew.setDrawn hs s.drawn⟩, ?_, by decide⟩
  rw [h2]
  exact hd0
def lw_Q (_ : Array Value) (s : State) (o : Outcome) (t : State) : Prop := o = .returned (some (.int 1)) ∧ State.butDraws s t lw_cs (fun t1 => Framed s o t1 [] 601024 7293034)
def lw_Z (below : List Frame) (a : Array Value) (s : State) : State → Prop := fun t => ∃ o, t.status = .running ∧ Ended t below o ∧ lw_Q a s o t
theorem lw_ret {p : Program} {l : Launch} {e : Env} {s : State} {m : MethodId} {below : List Frame} {meth : Method} {c : Code} {b : Nat} {d0 : Drawn} (hd0 : s.drawn.sameBut d0 lw_cs) (hx : p.tables.exec = Jvm.exec) (hb : c.code = code) (hr : meth.sig.returnType = ret) (hlocks : meth.locks = false) {pc : Nat} {H : Heap} {ls : Array Slot} (hdg : decode code pc = .ok (.ireturn, 1)) : W p l e room_1 (s.setDrawn d0) m #[Value.ref b] below meth c H [] 601024 7293034 (lw_Z below #[Value.ref b] s) (F0 m pc ls [.int 1]) := by
  intro T hT X
  obtain ⟨fs, hret, hrun, hended, hW, hframe⟩ := X.leave (v := some (.int 1)) (hlocks := hlocks) (fun h => by rw [hr] at h; cases h)
  have hmeth' : T.vm.method? m = some meth := X.method'
  refine ⟨T.setFrames fs, ?_, .returned (some (.int 1)), hrun, hended, rfl, lw_closed hd0 ⟨_, rfl⟩ hW hframe⟩
  jvm_step X.here [X.here.top, hx, hb, hdg, hmeth', hr, ret, narrow_b1]
  (try refine ⟨rfl, ?_⟩); (try refine ⟨rfl, ?_⟩)
  first | (intro acts; rw [hret _ acts rfl rfl rfl]) | rw [hret _ _ rfl rfl rfl]
  exact Steps.refl _
/-- what holds at the law's entry -/
def lw_At (p : Program) (s : State) (m : MethodId) (meth : Method) (c : Code) (b L : Nat) (xs : Nat → Int32) : Prop :=
  p.tables.exec = Jvm.exec ∧ c.code = code ∧ meth.sig.returnType = ret ∧ c.maxLocals = 9 ∧ s.vm.findClass R_law = some m.cls ∧ (∀ w ∈ lw_tbl, w.before #[Value.ref b] s = true) ∧ va_X b L xs s s.heap ∧ b < s.heap.size ∧ meth.locks = false ∧ (Jvm.Cond.and given_1 narrow_1).before #[Value.ref b] s = true ∧ meth.name = "law" ∧ c.exceptionTable.toList = []
theorem lw_sub4 : ∀ L, L < 2049 → (Int32.ofNat L - 4).toInt = (L : Int) - 4 := by decide +kernel
set_option maxHeartbeats 4000000 in
theorem lw_head {p : Program} {e : Env} {s : State} {m : MethodId} {below : List Frame} {meth : Method} {c : Code} {l : Launch} {b L k : Nat} {xs : Nat → Int32} (hL : L ≤ 2048) {Dg : va_G} {cs : am_CS}
    (hX : ax_ctx Dg cs s.heap.size b (some (L, xs)) p l room_1 s m #[Value.ref b] meth c 240) (hk : k ≤ 512) {H : Heap} {locs : List Loc} {ls : Array Slot} {cells slots : Nat} {Q : State → Prop} (hS : va_S (fun q => s.heap.size ≤ q) s.heap H locs) (hl : am_lh ls 9 s.heap.size b (ay_lL (Int32.ofNat (4 * k))))
    (k1 : ¬ 4 * k + 4 ≤ L → W p l e room_1 s m #[Value.ref b] below meth c H locs cells slots Q (F0 m 1749 ls [])) (k2 : 4 * k + 4 ≤ L → W p l e room_1 s m #[Value.ref b] below meth c H locs cells slots Q (F0 m 32 ls [])) :
    W p l e room_1 s m #[Value.ref b] below meth c H locs cells slots Q (F0 m 23 ls []) := by
  obtain ⟨hx, hb, hml, hown, hts, hE, hmn, hfr, hlo, hscr, -⟩ := id hX
  obtain ⟨x1, x2, x3⟩ := hscr _ _ rfl
  have l4 : ls[4]? = some (.val (.int (Int32.ofNat (4 * k)))) := am_lh_at hl (j := 4) (v := .int (Int32.ofNat (4 * k))) rfl
  have l0 : ls[0]? = some (.val (.ref b)) := by
    have h := am_lh_at hl (j := 0) (v := .ref am_scr) rfl
    rw [h]
    show some (Slot.val (Value.ref (am_ad s.heap.size b am_scr))) = _
    rw [show am_ad s.heap.size b am_scr = b from if_pos rfl]
  refine lv_iload hx hb (am_row_of fe_240_23).1 l4 ?_
  refine lv_aload_n hx hb (am_row_of fe_240_25).1 rfl l0 ?_
  refine va_slen hx hb x1 x2 (Nat.not_le.mpr x3) hS (am_row_of fe_240_26).1 ?_
  refine lv_iconst (v := 4) hx hb (am_row_of fe_240_27).1 rfl ?_
  refine lv_isub hx hb (am_row_of fe_240_28).1 ?_
  have e1 : (Int32.ofNat L - 4).toInt = (L : Int) - 4 := lw_sub4 L (by omega)
  have e2 : (Int32.ofNat (4 * k)).toInt = ((4 * k : Nat) : Int) := nI_toInt (by omega)
  refine lv_icmp_gt (tgt := 1749) hx hb (am_row_of fe_240_29).1 (by decide) (fun q => k1 ?_) (fun q => k2 ?_)
  · intro h
    have q2 : Int32.ofNat L - 4 < Int32.ofNat (4 * k) := by simpa using q
    rw [Int32.lt_iff_toInt_lt, e1, e2] at q2
    omega
  · have q2 : ¬ Int32.ofNat L - 4 < Int32.ofNat (4 * k) := by simpa using q
    rw [Int32.lt_iff_toInt_lt, e1, e2] at q2
    omega
set_option maxHeartbeats 4000000 in
theorem lw_exit {p : Program} {e : Env} {s : State} {m : MethodId} {below : List Frame} {meth : Method} {c : Code} {l : Launch} {b L k : Nat} {xs : Nat → Int32} {Dg : va_G} {cs : am_CS}
    (hX : ax_ctx Dg cs s.heap.size b (some (L, xs)) p l room_1 s m #[Value.ref b] meth c 240) (hk : k ≤ 512) {H : Heap} {locs : List Loc} {ls : Array Slot} (hS : va_S (fun q => s.heap.size ≤ q) s.heap H locs) :
    W p l e room_1 s m #[Value.ref b] below meth c H locs (330 + k) (8032 + 6 * k) (lw_Z below #[Value.ref b] s) (F0 m 1749 ls []) := by
  obtain ⟨hx, hb, hml, hown, hts, hE, hmn, hfr, hlo, hscr, hl, htab, hlocks, hret⟩ := id hX
  refine lv_iconst (v := 1) hx hb (am_row_of fe_240_1749).1 rfl ?_
  refine va_forget (fun q hq => hS.2.2 q hq) ?_
  refine W.widen (k := 601024) (n := 7293034) (by omega) (by omega) ?_
  exact lw_ret (d0 := s.drawn) (Drawn.sameBut.refl s.drawn lw_cs) hx hb hret hlocks (am_row_of fe_240_1750).1
set_option maxHeartbeats 4000000 in
theorem lw_loop {p : Program} {e : Env} {s : State} {m : MethodId} {below : List Frame} {meth : Method} {c : Code} {l : Launch} {b L : Nat} {xs : Nat → Int32} (hL : L ≤ 2048) {Dg : va_G} {cs : am_CS} {Inv : Nat → am_DD → Prop} (hok : ay_ok Inv)
    (hX : ax_ctx Dg cs s.heap.size b (some (L, xs)) p l room_1 s m #[Value.ref b] meth c 240) :
    ∀ (n k : Nat), k + n = 512 → ∀ (D : am_DD), Inv k D → ∀ (H : Heap) (locs : List Loc) (ls : Array Slot), va_S (fun q => s.heap.size ≤ q) s.heap H locs → am_dyn false Dg s.heap.size b cs ay_SK D H → am_lh ls 9 s.heap.size b (ay_lL (Int32.ofNat (4 * k))) →
      W p l e room_1 s m #[Value.ref b] below meth c H locs (330 + k) (8032 + 6 * k) (lw_Z below #[Value.ref b] s) (F0 m 23 ls []) := by
  intro n
  induction n with
  | zero =>
    intro k hk D hI H locs ls hS hY hl
    exact lw_head hL hX (by omega) hS hl (fun _ => lw_exit hX (by omega) hS) (fun h => absurd h (by omega))
  | succ n ih =>
    intro k hk D hI H locs ls hS hY hl
    refine lw_head hL hX (by omega) hS hl (fun _ => lw_exit hX (by omega) hS) (fun h4 => ?_)
    obtain ⟨D', cc, sc, hcc, hsc, ⟨w5, w6, w7, w8, n0, hrun⟩, hI'⟩ := hok.2 k L xs D hI hL h4
    refine ax_sim n0 false (some (L, xs)) 240 32 _ [] ay_SK D _ ay_SK D' cc sc hrun p l e room_1 s m #[Value.ref b] below meth c H locs (330 + k) (8032 + 6 * k) _ Dg cs s.heap.size b ls hX hS hY hl ?_ ?_ ?_
    · show 330 + k + cc ≤ 601024
      omega
    · show 8032 + 6 * k + sc ≤ 7293034
      omega
    · intro H' locs' ls' hS' hY' hl'
      refine W.widen (k := 330 + (k + 1)) (n := 8032 + 6 * (k + 1)) (by omega) (by omega) ?_
      refine ih (k + 1) (by omega) D' hI' H' locs' ls' hS' hY' (am_lh_weak hl' rfl ?_)
      have e4 : Int32.ofNat (4 * k) + 4 = Int32.ofNat (4 * (k + 1)) := by
        rw [show 4 * (k + 1) = 4 * k + 4 by omega, Int32.ofNat_add]
        rfl
      intro j v hj
      dsimp only
      rw [e4]
      match j, hj with
      | 0, hj => exact hj
      | 1, hj => exact hj
      | 2, hj => exact hj
      | 3, hj => exact hj
      | 4, hj => exact hj
      | 5, hj => cases hj
      | 6, hj => cases hj
      | 7, hj => cases hj
      | 8, hj => cases hj
      | j + 9, hj => simp [ay_lL] at hj
set_option maxHeartbeats 4000000 in
/-- THE LAW, from its entry, over what is wanted of its calls -/
theorem whole_start_open {Inv : Nat → am_DD → Prop} (hok : ay_ok Inv) {p : Program} {e : Env} {s : State} {m : MethodId} {below : List Frame} {meth : Method} {c : Code} (l : Launch) (hflags : l.flags = flags0) {b L : Nat} {xs : Nat → Int32} (hL : L ≤ 2048) (C0 : lw_At p s m meth c b L xs) : W p l e room_1 s m #[Value.ref b] below meth c s.heap [] 0 0 (lw_Z below #[Value.ref b] s) (entryFrame m ([Value.ref b] : List Value).toArray 9) := by
  obtain ⟨hx, hb, hr, hml, hown, hts, hX, hbl, hlocks, hgv, hmn, htab⟩ := id C0
  obtain ⟨Dg, cs, hE, hY⟩ := ax_begin hts hgv
  have hst : l.stackTraces = false := by
    unfold Launch.stackTraces
    rw [hflags]
    decide +kernel
  have hC : ax_ctx Dg cs s.heap.size b (some (L, xs)) p l room_1 s m #[Value.ref b] meth c 240 :=
    ⟨hx, hb, hml, hown, fun w hw => hts w (List.mem_filter.mp hw).1, hE, hmn, by decide +kernel, by decide +kernel, fun n2 x2 h => by cases h; exact ⟨hX, hbl, hbl⟩, hst, htab, hlocks, hr⟩
  have hC0 : ax_ctx Dg cs s.heap.size b none p l room_1 s m #[Value.ref b] meth c 240 :=
    ⟨hx, hb, hml, hown, fun w hw => hts w (List.mem_filter.mp hw).1, hE, hmn, by decide +kernel, by decide +kernel, (fun n2 x2 h => by cases h), hst, htab, hlocks, hr⟩
  obtain ⟨ls, he, hl⟩ := ax_entry (a := 240) (base := s.heap.size) (b := b) (As := [.ref am_scr]) (fun v hv => by rw [List.mem_singleton.mp hv]; rfl) (by decide +kernel) m
  have e0 : ([Value.ref am_scr] : List Value).map (am_tr s.heap.size b) = [Value.ref b] := by
    show [Value.ref (am_ad s.heap.size b am_scr)] = _
    rw [show am_ad s.heap.size b am_scr = b from if_pos rfl]
  rw [e0] at he
  have e9 : am_mL 240 = 9 := by decide +kernel
  rw [e9] at he hl
  rw [he]
  obtain ⟨D0, hrun, hD0⟩ := ay_start
  refine ax_sim 100000 true none 240 0 _ [] [] (fun _ _ => 0) _ ay_SK D0 330 8032 hrun p l e room_1 s m #[Value.ref b] below meth c s.heap [] 0 0 _ Dg cs s.heap.size b ls hC0 va_S.rf hY ?_ ?_ ?_ ?_
  · rw [e9]
    exact hl
  · show 0 + 330 ≤ 601024
    omega
  · show 0 + 8032 ≤ 7293034
    omega
  · intro H' locs' ls' hS' hY' hl'
    rw [e9] at hl'
    exact lw_loop hL hok hC 512 0 (by omega) D0 (hok.1 D0 hD0) H' locs' ls' hS' ⟨hY'.1, hY'.2.1, fun h => by cases h⟩ hl'
