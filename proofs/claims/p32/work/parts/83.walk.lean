/-! the law from its entry to its end -/
def R_law : String := "MarbleGatesLaw"
def lw_P (b : Addr) (xs : List Int32) (args : Array Value) (s : State) : Prop := args = #[.ref b] ∧ s.IntsAt b xs ∧ xs.length ≤ 260 ∧ (Jvm.Cond.and given_1 narrow_1).before args s = true
/-- what a walk over the start with the record d0 says of its end, said of the start itself -/
theorem lw_closed {s t : State} {o : Outcome} {d0 : Drawn} {L : List Loc} {k n : Nat} (hd0 : s.drawn.sameBut d0 lw_cs) (hv : ∃ v, o = .returned v) (hW : (s.setDrawn d0).WarmedH t.vm) (hs : (s.setDrawn d0).sameButNew ({ t with vm := s.vm } : State) L k n) : State.butDraws s t lw_cs (fun t1 => Framed s o t1 L k n) := by
  have h2 : t.drawn = d0 := congrArg State.drawn hs.1
  refine ⟨⟨hv, hW, State.sameButNew.setDrawn hs s.drawn⟩, ?_, by decide⟩
  rw [h2]
  exact hd0
def lw_Q (_ : Array Value) (s : State) (o : Outcome) (t : State) : Prop := o = .returned (some (.int 1)) ∧ State.butDraws s t lw_cs (fun t1 => Framed s o t1 [] 600130 7301080)
def lw_Z (below : List Frame) (a : Array Value) (s : State) : State → Prop := fun t => ∃ o, t.status = .running ∧ Ended t below o ∧ lw_Q a s o t
/-- the law's own end, with 1 on the stack, nothing written that was there before, its room as the claim has it; d0: the record of draws at this point (at the entry s.drawn: begin with 'refine W.base ?_' and 'have hd0 := Drawn.sameBut.refl s.drawn lw_cs') -/
theorem lw_ret {p : Program} {l : Launch} {e : Env} {s : State} {m : MethodId} {below : List Frame} {meth : Method} {c : Code} {b : Nat} {d0 : Drawn} (hd0 : s.drawn.sameBut d0 lw_cs) (hx : p.tables.exec = Jvm.exec) (hb : c.code = code) (hr : meth.sig.returnType = ret) (hlocks : meth.locks = false) {pc : Nat} {H : Heap} {ls : Array Slot} (hdg : decode code pc = .ok (.ireturn, 1)) : W p l e room_1 (s.setDrawn d0) m #[Value.ref b] below meth c H [] 600130 7301080 (lw_Z below #[Value.ref b] s) (F0 m pc ls [.int 1]) := by
  intro T hT X
  obtain ⟨fs, hret, hrun, hended, hW, hframe⟩ := X.leave (v := some (.int 1)) (hlocks := hlocks) (fun h => by rw [hr] at h; cases h)
  have hmeth' : T.vm.method? m = some meth := X.method'
  refine ⟨T.setFrames fs, ?_, .returned (some (.int 1)), hrun, hended, rfl, lw_closed hd0 ⟨_, rfl⟩ hW hframe⟩
  jvm_step X.here [X.here.top, hx, hb, hdg, hmeth', hr, ret, narrow_b1]
  (try refine ⟨rfl, ?_⟩); (try refine ⟨rfl, ?_⟩)
  first | (intro acts; rw [hret _ acts rfl rfl rfl]) | rw [hret _ _ rfl rfl rfl]
  exact Steps.refl _
/-- what holds at the law's entry: the machine, the code, the tables' words (any of lw_tbl by 'hts w (by decide +kernel)'), the script of L ints xs at the cell b, what the Statement gives of the start (any of its parts by flat_of_before) -/
def lw_At (p : Program) (s : State) (m : MethodId) (meth : Method) (c : Code) (b L : Nat) (xs : Nat → Int32) : Prop :=
  p.tables.exec = Jvm.exec ∧ c.code = code ∧ meth.sig.returnType = ret ∧ c.maxLocals = 3 ∧ s.vm.findClass R_law = some m.cls ∧ (∀ w ∈ lw_tbl, w.before #[Value.ref b] s = true) ∧ va_X b L xs s s.heap ∧ b < s.heap.size ∧ meth.locks = false ∧ (Jvm.Cond.and given_1 narrow_1).before #[Value.ref b] s = true ∧ meth.name = "law" ∧ c.exceptionTable.toList = []
theorem lw_e3 : am_mL 106 = 3 := by decide +kernel
section LWW
variable {p : Program} {l : Launch} {e : Env} {R : Room} {s : State} {m : MethodId} {args : Array Value} {below : List Frame} {meth : Method} {c : Code} {H : Heap} {locs : List Loc} {cells slots b : Nat} {Q : State → Prop}
variable {pc pc' len b0 a : Nat} {ins : Instr} {ls : Array Slot} {Dg : va_G} {cs : am_CS} {L L' : am_LL} {S S' S1 : List Value} {D : am_DD} {P : am_DD → Prop}
theorem lw_go (hX : ax_ctx Dg cs s.heap.size b none p l R s m args meth c 106) (hS : va_S (fun q => s.heap.size ≤ q) s.heap H locs) (hY : am_dyn false none Dg s.heap.size b cs ay_SK D H) (hL : am_lh ls 3 s.heap.size b L) (hp : lw_pc pc L S D pc' L' S' P) (hc : cells ≤ R.cells) (hs : slots ≤ R.slots)
    (kk : ∀ (H' : Heap) (locs' : List Loc) (ls' : Array Slot) (D' : am_DD), va_S (fun q => s.heap.size ≤ q) s.heap H' locs' → P D' → am_dyn false none Dg s.heap.size b cs ay_SK D' H' → am_lh ls' 3 s.heap.size b L' → W p l e R s m args below meth c H' locs' cells slots Q (F0 m pc' ls' (S'.map (am_tr s.heap.size b)))) :
    W p l e R s m args below meth c H locs cells slots Q (F0 m pc ls (S.map (am_tr s.heap.size b))) := by
  obtain ⟨r, D', c1, s1, h1, h2, ⟨n, hn⟩, rfl, hP⟩ := hp none
  obtain rfl : c1 = 0 := by omega
  obtain rfl : s1 = 0 := by omega
  refine ax_sim n false none 106 pc L S ay_SK D _ ay_SK D' 0 0 hn p l e R s m args below meth c H locs cells slots Q Dg cs s.heap.size b ls hX hS hY (by rw [lw_e3]; exact hL) hc hs fun H' locs' ls' g1 g2 g3 => ?_
  rw [lw_e3] at g3
  exact kk H' locs' ls' D' g1 hP g2 g3
theorem lw_cell {n : Nat} {xs : Nat → Int32} {k : Int32} (hX : ax_ctx Dg cs s.heap.size b none p l R s m args meth c 106) (hXs : va_X b n xs s s.heap) (hb : b < s.heap.size) (hn : n < 2 ^ 31) (hk : ¬ k < 0) (hS : va_S (fun q => s.heap.size ≤ q) s.heap H locs) (hY : am_dyn false none Dg s.heap.size b cs ay_SK D H) (hL : am_lh ls 3 s.heap.size b L)
    (hf : am_fetch 106 pc = some (ins, len, 12, 69, b0)) (hwd : am_words S1 ≤ 8) (hc : cells ≤ R.cells) (hs : slots ≤ R.slots)
    (kk : ∀ (H' : Heap) (locs' : List Loc) (v : Int32), va_S (fun q => s.heap.size ≤ q) s.heap H' locs' → am_dyn false none Dg s.heap.size b cs ay_SK D H' → W p l e R s m args below meth c H' locs' cells slots Q (F0 m (pc + 3) ls ((.int v :: S1).map (am_tr s.heap.size b)))) :
    W p l e R s m args below meth c H locs cells slots Q (F0 m pc ls ((.int k :: .ref am_scr :: S1).map (am_tr s.heap.size b))) := by
  have hE := hX.2.2.2.2.2.1
  have hl : l.stackTraces = false := hX.2.2.2.2.2.2.2.2.2.2.1
  have hgo := ln_go12 (cells := cells) (slots := slots) (locs := locs) (H := H) (e := e) (below := below) (As := [.ref am_scr, .int k]) (S1 := S1) hX (by rw [lw_e3]; exact hL.2.1) hf rfl hwd (ln_cell (Dg := Dg) (base := s.heap.size) (b := b) (cs := cs) (xs := xs) (D := D) hl hn hk) (ln_blind ln_blindX) (fun U hU hW => ⟨rfl, ax_env.moved hW (fun q h1 h2 => by rw [hU]; exact hS.2.1 q h1 h2) hE, ⟨(hXs.moved hW.alike).kept (by rw [hU]; exact hS.2.1 b hb (Nat.not_le.mpr hb)), by rw [hU]; exact Nat.lt_of_lt_of_le hb hS.1, hb⟩, D, rfl, by rw [hU]; exact hY⟩) hc hs
  refine ln_back hgo hS fun H1 locs1 v D1 hS1 hv hY1 => ?_
  subst hv
  exact kk H1 locs1 v hS1 hY1
theorem lw_act {B Bf : Nat} {v w : Int32} (hX : ax_ctx Dg cs s.heap.size b none p l R s m args meth c 106) (hI : In B D) (hB : B + 4000 ≤ Bf) (hBf : Bf < 2 ^ 24) (hS : va_S (fun q => s.heap.size ≤ q) s.heap H locs) (hY : am_dyn false none Dg s.heap.size b cs ay_SK D H) (hL : am_lh ls 3 s.heap.size b L) (hc : cells + 2 ≤ R.cells) (hs : slots + 23 ≤ R.slots)
    (kk : ∀ (H' : Heap) (locs' : List Loc) (D' : am_DD), va_S (fun q => s.heap.size ≤ q) s.heap H' locs' → In Bf D' → am_dyn false none Dg s.heap.size b cs ay_SK D' H' → W p l e R s m args below meth c H' locs' (cells + 2) (slots + 23) Q (F0 m 94 ls [.int 1])) :
    W p l e R s m args below meth c H locs cells slots Q (F0 m 91 ls ([Value.int w, .int v, .ref 0].map (am_tr s.heap.size b))) := by
  have hE := hX.2.2.2.2.2.1
  have hl : l.stackTraces = false := hX.2.2.2.2.2.2.2.2.2.2.1
  have hM := ln_act (Dg := Dg) (base := s.heap.size) (b := b) (cs := cs) (v0 := v) (w0 := w) (I := In B) (J := In Bf) hl (fun D hD => h_act hD hB hBf)
  have hgo := ln_go12 (cells := cells) (slots := slots) (locs := locs) (H := H) (e := e) (below := below) (As := [.ref 0, .int v, .int w]) (S1 := []) hX (by rw [lw_e3]; exact hL.2.1) fe_106_91 rfl (by decide) hM (ln_blind fun _ _ _ _ h => h) (fun U hU hW => ⟨rfl, ax_env.moved hW (fun q h1 h2 => by rw [hU]; exact hS.2.1 q h1 h2) hE, trivial, D, hI, by rw [hU]; exact hY⟩) hc hs
  refine ln_back hgo hS fun H1 locs1 v1 D1 hS1 hv hY1 => ?_
  obtain ⟨rfl, hJ⟩ := hv
  exact kk H1 locs1 D1 hS1 hJ hY1
theorem lw_lets {B Bf k : Nat} {w : Int32} (hX : ax_ctx Dg cs s.heap.size b none p l R s m args meth c 106) (hI : In B D) (hk : 1 ≤ k) (hk2 : k ≤ 40) (hB : B + 4000 ≤ Bf) (hBf : Bf < 2 ^ 24) (hS : va_S (fun q => s.heap.size ≤ q) s.heap H locs) (hY : am_dyn false none Dg s.heap.size b cs ay_SK D H) (hL : am_lh ls 3 s.heap.size b L) (hc : cells + 1 ≤ R.cells) (hs : slots + 17 ≤ R.slots)
    (kk : ∀ (H' : Heap) (locs' : List Loc) (D' : am_DD), va_S (fun q => s.heap.size ≤ q) s.heap H' locs' → In Bf D' → am_dyn false none Dg s.heap.size b cs ay_SK D' H' → W p l e R s m args below meth c H' locs' (cells + 1) (slots + 17) Q (F0 m 154 ls [.int 1])) :
    W p l e R s m args below meth c H locs cells slots Q (F0 m 151 ls ([Value.int w, .int (Int32.ofNat k), .ref 0].map (am_tr s.heap.size b))) := by
  have hE := hX.2.2.2.2.2.1
  have hl : l.stackTraces = false := hX.2.2.2.2.2.2.2.2.2.2.1
  have hM := ln_lets (Dg := Dg) (base := s.heap.size) (b := b) (cs := cs) (m0 := Int32.ofNat k) (w0 := w) (I := In B) (J := In Bf) hl (fun D hD => In_D0 hD) (fun D hD => h_lets hk hk2 hB hBf hD)
  have hgo := ln_go12 (cells := cells) (slots := slots) (locs := locs) (H := H) (e := e) (below := below) (As := [.ref 0, .int (Int32.ofNat k), .int w]) (S1 := []) hX (by rw [lw_e3]; exact hL.2.1) fe_106_151 rfl (by decide) hM (ln_blind fun _ _ _ _ h => h) (fun U hU hW => ⟨rfl, ax_env.moved hW (fun q h1 h2 => by rw [hU]; exact hS.2.1 q h1 h2) hE, trivial, D, hI, by rw [hU]; exact hY⟩) hc hs
  refine ln_back hgo hS fun H1 locs1 v1 D1 hS1 hv hY1 => ?_
  obtain ⟨rfl, hJ⟩ := hv
  exact kk H1 locs1 D1 hS1 hJ hY1
end LWW
section LWZ
variable {p : Program} {l : Launch} {e : Env} {s : State} {m : MethodId} {below : List Frame} {meth : Method} {c : Code} {b n : Nat} {xs : Nat → Int32} {Dg : va_G} {cs : am_CS}
/-- the loop is done -/
theorem lw_tail (hX : ax_ctx Dg cs s.heap.size b none p l room_1 s m #[Value.ref b] meth c 106) (hXs : va_X b n xs s s.heap) (hb : b < s.heap.size) (hn : n < 2 ^ 31) {x : Int32} {B : Nat} (hB : B + 4000 < 2 ^ 24) {D : am_DD} (hI : In B D) {H : Heap} {locs : List Loc} {ls : Array Slot} {cells slots : Nat} (hS : va_S (fun q => s.heap.size ≤ q) s.heap H locs) (hY : am_dyn false none Dg s.heap.size b cs ay_SK D H) (hL : am_lh ls 3 s.heap.size b (lw_L (some (.int x)))) (hc : cells + 1 ≤ 600130) (hs : slots + 17 ≤ 7301080) :
    W p l e room_1 s m #[Value.ref b] below meth c H locs cells slots (lw_Z below #[Value.ref b] s) (F0 m 116 ls ([Value.int 88, .ref am_scr, .ref 0].map (am_tr s.heap.size b))) := by
  obtain ⟨hx, hbb, -, hown, hts, hE, -, -, -, -, -, -, hlocks, hret⟩ := id hX
  have hc' : cells ≤ room_1.cells := by show cells ≤ 600130; omega
  have hs' : slots ≤ room_1.slots := by show slots ≤ 7301080; omega
  refine lw_cell (k := 88) (S1 := [.ref 0]) hX hXs hb hn (by decide) hS hY hL fe_106_116 (by decide) hc' hs' fun H1 locs1 v1 hS1 hY1 => ?_
  refine lw_go hX hS1 hY1 hL (pc_e hI) hc' hs' fun H2 locs2 ls2 D2 hS2 hI2 hY2 hL2 => ?_
  refine lw_cell (k := 89) (S1 := [.int 1, .ref 0]) hX hXs hb hn (by decide) hS2 hY2 hL2 fe_106_136 (by decide) hc' hs' fun H3 locs3 v3 hS3 hY3 => ?_
  obtain ⟨y, hy, hf⟩ := pc_f (x := x) (v := v3) (D := D2)
  refine lw_go hX hS3 hY3 hL2 hf hc' hs' fun H4 locs4 ls4 D4 hS4 hI4 hY4 hL4 => ?_
  subst hI4
  refine lw_cell (k := 90) (S1 := [.int (Int32.ofNat (1 + y)), .ref 0]) hX hXs hb hn (by decide) hS4 hY4 hL4 fe_106_148 (by simp [am_words, Value.category]) hc' hs' fun H5 locs5 v5 hS5 hY5 => ?_
  refine lw_lets hX hI2 (show 1 ≤ 1 + y by omega) (show 1 + y ≤ 40 by omega) (Nat.le_refl _) hB hS5 hY5 hL4 hc hs fun H6 locs6 D6 hS6 hI6 hY6 => ?_
  refine lw_go hX hS6 hY6 hL4 (pc_g hI6) hc hs fun H7 locs7 ls7 D7 hS7 hI7 hY7 hL7 => ?_
  refine va_forget (fun q hq => hS7.2.2 q hq) ?_
  refine W.widen (k := 600130) (n := 7301080) hc hs ?_
  exact lw_ret (d0 := s.drawn) (Drawn.sameBut.refl s.drawn lw_cs) hx hbb hret hlocks (am_row_of fe_106_169).1
theorem lw_loop (hX : ax_ctx Dg cs s.heap.size b none p l room_1 s m #[Value.ref b] meth c 106) (hXs : va_X b n xs s s.heap) (hb : b < s.heap.size) (hn : n < 2 ^ 31) : ∀ (k i : Nat), i + k = 44 → ∀ (D : am_DD), In (4000 * i) D → ∀ (H : Heap) (locs : List Loc) (ls : Array Slot), va_S (fun q => s.heap.size ≤ q) s.heap H locs → am_dyn false none Dg s.heap.size b cs ay_SK D H → am_lh ls 3 s.heap.size b (lw_L (some (.int (Int32.ofNat i)))) →
    W p l e room_1 s m #[Value.ref b] below meth c H locs (321 + 2 * i) (4283 + 23 * i) (lw_Z below #[Value.ref b] s) (F0 m 54 ls []) := by
  obtain ⟨hx, hbb, -, hown, hts, hE, -, -, -, -, -, -, hlocks, hret⟩ := id hX
  intro k
  induction k with
  | zero =>
    intro i hi D hI H locs ls hS hY hL
    obtain rfl : i = 44 := by omega
    have l2 : ls[2]? = some (.val (.int (Int32.ofNat 44))) := am_lh_at hL (j := 2) (v := .int (Int32.ofNat 44)) rfl
    refine lv_iload_n hx hbb (am_row_of fe_106_54).1 rfl l2 ?_
    refine lw_go (S := [.int (Int32.ofNat 44)]) hX hS hY hL (pc_b1 (by decide)) (by show 321 + 2 * 44 ≤ 600130; omega) (by show 4283 + 23 * 44 ≤ 7301080; omega) fun H2 locs2 ls2 D2 hS2 hI2 hY2 hL2 => ?_
    subst hI2
    exact lw_tail hX hXs hb hn (by omega) hI hS2 hY2 hL2 (by omega) (by omega)
  | succ k ih =>
    intro i hi D hI H locs ls hS hY hL
    have hc : 321 + 2 * i ≤ room_1.cells := by show 321 + 2 * i ≤ 600130; omega
    have hs : 4283 + 23 * i ≤ room_1.slots := by show 4283 + 23 * i ≤ 7301080; omega
    have l2 : ls[2]? = some (.val (.int (Int32.ofNat i))) := am_lh_at hL (j := 2) (v := .int (Int32.ofNat i)) rfl
    have q44 : ¬ (44 : Int32) ≤ Int32.ofNat i := nle (a := 44) (by omega) (by omega) (by omega)
    have e2 : (2 : Int32) * Int32.ofNat i = Int32.ofNat (2 * i) := n_mul 2 i
    have k1 : ¬ (2 : Int32) * Int32.ofNat i < 0 := by rw [e2]; exact nI_pos (n := 2 * i) (by omega)
    have k2 : ¬ (2 : Int32) * Int32.ofNat i + 1 < 0 := by rw [e2, nI_up]; exact nI_pos (n := 2 * i + 1) (by omega)
    have go : ∀ (v : Int32) (H : Heap) (locs : List Loc) (ls : Array Slot), va_S (fun q => s.heap.size ≤ q) s.heap H locs → am_dyn false none Dg s.heap.size b cs ay_SK D H → am_lh ls 3 s.heap.size b (lw_L (some (.int (Int32.ofNat i)))) → W p l e room_1 s m #[Value.ref b] below meth c H locs (321 + 2 * i) (4283 + 23 * i) (lw_Z below #[Value.ref b] s) (F0 m 88 ls ([Value.int (2 * Int32.ofNat i + 1), .ref am_scr, .int v, .ref 0].map (am_tr s.heap.size b))) := by
      intro v H locs ls hS hY hL
      refine lw_cell (k := 2 * Int32.ofNat i + 1) (S1 := [.int v, .ref 0]) hX hXs hb hn k2 hS hY hL fe_106_88 (by simp [am_words, Value.category]) hc hs fun H1 locs1 v1 hS1 hY1 => ?_
      refine lw_act hX hI (show 4000 * i + 4000 ≤ 4000 * (i + 1) by omega) (by omega) hS1 hY1 hL (by show 321 + 2 * i + 2 ≤ 600130; omega) (by show 4283 + 23 * i + 23 ≤ 7301080; omega) fun H2 locs2 D2 hS2 hI2 hY2 => ?_
      refine lw_go (S := [.int 1]) hX hS2 hY2 hL (pc_d hI2) (by show 321 + 2 * i + 2 ≤ 600130; omega) (by show 4283 + 23 * i + 23 ≤ 7301080; omega) fun H3 locs3 ls3 D3 hS3 hI3 hY3 hL3 => ?_
      rw [nI_up] at hL3
      exact ih (i + 1) (by omega) D3 hI3 H3 locs3 ls3 hS3 hY3 hL3
    refine lv_iload_n hx hbb (am_row_of fe_106_54).1 rfl l2 ?_
    by_cases z : 6 ≤ i
    · have q6 : (6 : Int32) ≤ Int32.ofNat i := ile (a := 6) (by omega) (by omega) z
      refine lw_go (S := [.int (Int32.ofNat i)]) hX hS hY hL (pc_b3 q44 q6) hc hs fun H2 locs2 ls2 D2 hS2 hI2 hY2 hL2 => ?_
      subst hI2
      refine lw_cell (k := 2 * Int32.ofNat i) (S1 := [.ref 0]) hX hXs hb hn k1 hS2 hY2 hL2 fe_106_79 (by decide) hc hs fun H3 locs3 v3 hS3 hY3 => ?_
      refine lw_go hX hS3 hY3 hL2 pc_c hc hs fun H4 locs4 ls4 D4 hS4 hI4 hY4 hL4 => ?_
      subst hI4
      exact go v3 H4 locs4 ls4 hS4 hY4 hL4
    · have q6 : ¬ (6 : Int32) ≤ Int32.ofNat i := nle (a := 6) (by omega) (by omega) (by omega)
      refine lw_go (S := [.int (Int32.ofNat i)]) hX hS hY hL (pc_b2 q44 q6) hc hs fun H2 locs2 ls2 D2 hS2 hI2 hY2 hL2 => ?_
      subst hI2
      exact go _ H2 locs2 ls2 hS2 hY2 hL2
end LWZ
set_option maxHeartbeats 4000000 in
/-- THE LAW, from its entry -/
theorem whole_start {p : Program} {e : Env} {s : State} {m : MethodId} {below : List Frame} {meth : Method} {c : Code} (l : Launch) (hflags : l.flags = flags0) {b L : Nat} {xs : Nat → Int32} (hL : L ≤ 260) (C0 : lw_At p s m meth c b L xs) : W p l e room_1 s m #[Value.ref b] below meth c s.heap [] 0 0 (lw_Z below #[Value.ref b] s) (entryFrame m ([Value.ref b] : List Value).toArray 3) := by
  obtain ⟨hx, hb, hr, hml, hown, hts, hX, hbl, hlocks, hgv, hmn, htab⟩ := id C0
  obtain ⟨Dg, cs, hE, hY⟩ := ax_begin hts hgv
  have hst : l.stackTraces = false := by
    unfold Launch.stackTraces
    rw [hflags]
    decide +kernel
  have hC : ax_ctx Dg cs s.heap.size b none p l room_1 s m #[Value.ref b] meth c 106 :=
    ⟨hx, hb, hml, hown, fun w hw => hts w (List.mem_filter.mp hw).1, hE, hmn, by decide +kernel, by decide +kernel, (fun n2 h => by cases h), hst, htab, hlocks, hr⟩
  obtain ⟨ls, he, hl⟩ := ax_entry (a := 106) (base := s.heap.size) (b := b) (As := [.ref am_scr]) (fun v hv => by rw [List.mem_singleton.mp hv]; rfl) (by decide +kernel) m
  have e0 : ([Value.ref am_scr] : List Value).map (am_tr s.heap.size b) = [Value.ref b] := by
    show [Value.ref (am_ad s.heap.size b am_scr)] = _
    rw [show am_ad s.heap.size b am_scr = b from if_pos rfl]
  rw [e0, lw_e3] at he
  rw [he]
  obtain ⟨r0, D0, hrun, hend, hD0⟩ := ay_start
  have hl0 : am_lh ls (am_mL 106) s.heap.size b [some (.ref am_scr), none, none] := hl
  refine ax_step (S := []) (S' := [.ref 0]) (L' := [some (.ref am_scr), none, none]) (SK' := ay_one) (D' := fun _ _ => 0) (pc' := 3) (c2 := 1) (s2 := 6) hC va_S.rf hY hl0 fe_106_0 rfl (by show 0 + 1 ≤ 600130; omega) (by show 0 + 6 ≤ 7301080; omega) fun H1 locs1 ls1 hS1 hY1 hl1 => ?_
  refine ax_step (S' := [.ref 0, .ref 0]) (L' := [some (.ref am_scr), none, none]) (SK' := ay_one) (D' := fun _ _ => 0) (pc' := 4) (c2 := 0) (s2 := 0) hC hS1 hY1 hl1 fe_106_3 rfl (by show 0 + 1 + 0 ≤ 600130; omega) (by show 0 + 6 + 0 ≤ 7301080; omega) fun H2 locs2 ls2 hS2 hY2 hl2 => ?_
  have hM := ax_ret (ax_sim 100000) hrun hend (As := [.ref 0]) (fun v hv => by rw [List.mem_singleton.mp hv]; rfl) (by decide +kernel) (by decide) hst (Dg := Dg) (base := s.heap.size) (b := b) (cs := cs)
  have hgo := ax_goR (S := [.ref 0, .ref 0]) (S1 := [.ref 0]) (cells := 0 + 1 + 0) (slots := 0 + 6 + 0) (below := below) (e := e) hC hS2 hY2 hl2.2.1 fe_106_4 (ay_args [.ref 0] [.ref 0] rfl rfl (Nat.le_of_ble_eq_true rfl) (Nat.le_of_ble_eq_true rfl)) rfl hM (by show 0 + 1 + 0 + 320 ≤ 600130; omega) (by show 0 + 6 + 0 + 4277 ≤ 7301080; omega)
  refine ax_callR hgo hS2 fun H3 locs3 hS3 hY3 => ?_
  refine ax_step (S := [.ref 0]) (S' := []) (L' := [some (.ref am_scr), some (.ref 0), none]) (SK' := ay_SK) (D' := D0) (pc' := 8) (c2 := 0) (s2 := 0) hC hS3 hY3 hl2 fe_106_7 rfl (by show 0 + 1 + 0 + 320 + 0 ≤ 600130; omega) (by show 0 + 6 + 0 + 4277 + 0 ≤ 7301080; omega) fun H4 locs4 ls4 hS4 hY4 hl4 => ?_
  rw [lw_e3] at hl4
  have hY5 : am_dyn false none Dg s.heap.size b cs ay_SK D0 H4 := ⟨hY4.1, hY4.2.1, (fun h => by cases h), hY4.2.2.2⟩
  refine lw_go (S := []) (L := lw_L none) hC hS4 hY5 hl4 (pc_a (z_rel hD0)) (by show 0 + 1 + 0 + 320 + 0 ≤ 600130; omega) (by show 0 + 6 + 0 + 4277 + 0 ≤ 7301080; omega) fun H6 locs6 ls6 D6 hS6 hI6 hY6 hL6 => ?_
  exact lw_loop hC hX hbl (by omega) 44 0 (by omega) D6 hI6 H6 locs6 ls6 hS6 hY6 hL6
