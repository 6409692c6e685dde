/-! what is made, and the JDK's own calls -/
theorem am_dflt_ok : ∀ ci, ci < 11 → ∀ j, j < (am_cls ci).2.2 → am_ty ci j = .int ∨ (¬ am_ty ci j = .int ∧ defaultValue (am_ty ci j) = .null) := by decide +kernel
set_option maxHeartbeats 4000000 in
theorem am_chk61 {i pc len b0 : Nat} {ins : Instr} (hc : am_chk i (pc, ins, len, 6, 1, b0) = true) : ∃ idx, ins = .invokespecial idx ∧ len = 3 ∧ 1 ≤ am_fr i ∧ 20 ≤ am_lo i := by
  cases ins <;> first | (exfalso; exact Bool.false_ne_true hc) | skip
  next idx =>
    simp only [am_chk, Bool.and_eq_true, beq_iff_eq, decide_eq_true_eq] at hc
    exact ⟨idx, rfl, hc.1.1, hc.1.2, hc.2⟩
set_option maxHeartbeats 4000000 in
theorem am_chk62 {i pc len b0 : Nat} {ins : Instr} (hc : am_chk i (pc, ins, len, 6, 2, b0) = true) : ∃ idx, ins = .invokestatic idx ∧ len = 3 ∧ 1 ≤ am_fr i ∧ 21 ≤ am_lo i := by
  cases ins <;> first | (exfalso; exact Bool.false_ne_true hc) | skip
  next idx =>
    simp only [am_chk, Bool.and_eq_true, beq_iff_eq, decide_eq_true_eq] at hc
    exact ⟨idx, rfl, hc.1.1, hc.1.2, hc.2⟩
set_option maxHeartbeats 4000000 in
theorem am_chk63 {i pc len b0 : Nat} {ins : Instr} (hc : am_chk i (pc, ins, len, 6, 3, b0) = true) : ∃ idx, ins = .invokestatic idx ∧ len = 3 ∧ 1 ≤ am_fr i ∧ 21 ≤ am_lo i := by
  cases ins <;> first | (exfalso; exact Bool.false_ne_true hc) | skip
  next idx =>
    simp only [am_chk, Bool.and_eq_true, beq_iff_eq, decide_eq_true_eq] at hc
    exact ⟨idx, rfl, hc.1.1, hc.1.2, hc.2⟩
set_option maxHeartbeats 4000000 in
theorem am_chk64 {i pc len b0 : Nat} {ins : Instr} (hc : am_chk i (pc, ins, len, 6, 4, b0) = true) : ∃ idx, ins = .invokestatic idx ∧ len = 3 ∧ 1 ≤ am_fr i ∧ 26 ≤ am_lo i := by
  cases ins <;> first | (exfalso; exact Bool.false_ne_true hc) | skip
  next idx =>
    simp only [am_chk, Bool.and_eq_true, beq_iff_eq, decide_eq_true_eq] at hc
    exact ⟨idx, rfl, hc.1.1, hc.1.2, hc.2⟩
set_option maxHeartbeats 4000000 in
theorem am_chk65 {i pc len b0 : Nat} {ins : Instr} (hc : am_chk i (pc, ins, len, 6, 5, b0) = true) : (∃ idx, ins = .ldc_w idx ∧ len = 3) ∨ ∃ idx, ins = .ldc idx ∧ len = 2 := by
  cases ins <;> first | (exfalso; exact Bool.false_ne_true hc) | skip
  next idx =>
    simp only [am_chk, beq_iff_eq] at hc
    exact Or.inr ⟨idx, rfl, hc⟩
  next idx =>
    simp only [am_chk, beq_iff_eq] at hc
    exact Or.inl ⟨idx, rfl, hc⟩
section AMS4
variable {p : Program} {l : Launch} {e : Env} {R : Room} {s : State} {m : MethodId} {args : Array Value} {below : List Frame} {meth : Method} {c : Code} {H H0 : Heap} {locs : List Loc} {cells slots : Nat} {Q : State → Prop}
variable {pc len a b0 i base b : Nat} {ls : Array Slot} {ins : Instr} {Dg : va_G} {cs : am_CS} {SK SK' : List am_SC} {D D' : am_DD} {scr : Option Nat} {al : Bool}
/-- behind a making: the picture -/
theorem am_dyn.push {sc : am_SC} {H' : Heap} (hY : am_dyn true scr Dg base b cs SK D H) (hn : va_at Dg vwCl (base + SK.length, am_cell base b cs sc (fun _ => 0)) H') (hz : H'.size = H.size + 1) (hq : ∀ q, q < H.size → H'[q]? = H[q]?) : am_dyn true scr Dg base b cs (SK ++ [sc]) D H' := by
  obtain ⟨h1, h2, h3, h6⟩ := hY
  obtain ⟨h4, h5⟩ := h3 rfl
  refine ⟨fun k sc' hk => ?_, by omega, fun _ => ⟨by rw [List.length_append, hz, h4]; simp; omega, fun k hk j => h5 k (by rw [List.length_append] at hk; simp at hk; omega) j⟩, fun n hs => by
    exfalso
    obtain ⟨g1, g2, -⟩ := h6 n hs
    have := (Array.getElem?_eq_some_iff.mp (show H[b]? = some _ from g1)).1
    omega⟩
  by_cases hl : k < SK.length
  · rw [List.getElem?_append_left hl] at hk
    exact (h1 k sc' hk).kept (hq _ (by omega))
  · have hl2 : k < (SK ++ [sc]).length := (List.getElem?_eq_some_iff.mp hk).1
    rw [List.length_append] at hl2
    have hkl : k = SK.length := by simp at hl2; omega
    subst hkl
    rw [List.getElem?_append_right (Nat.le_refl _), Nat.sub_self] at hk
    cases hk
    rw [show D SK.length = fun _ => 0 from funext fun j => h5 _ (Nat.le_refl _) j]
    exact hn
theorem va_S.push {A : Nat → Prop} {H' : Heap} (hS : va_S A H0 H locs) (hz : H'.size = H.size + 1) (hq : ∀ q, q < H.size → H'[q]? = H[q]?) : va_S A H0 H' locs := ⟨Nat.le_trans hS.1 (by omega), fun x h1 h2 => (hq x (Nat.lt_of_lt_of_le h1 hS.1)).trans (hS.2.1 x h1 h2), hS.2.2⟩
set_option maxHeartbeats 4000000 in
theorem am_sim_nw (hx : p.tables.exec = Jvm.exec) (hb : c.code = am_b i) (hown : s.vm.findClass (am_own i) = some m.cls) (hts : ∀ w ∈ am_GW, w.before args s = true) (hK : va_K Dg vwCl (am_tyl cs) s) (hAO : va_AO RX7 s)
    (hS : va_S (fun q => base ≤ q) s.heap H locs) (hY : am_dyn al scr Dg base b cs SK D H)
    {S S' : List Value} {kn : Nat} (hd : decode (am_b i) pc = .ok (ins, len)) (hc : am_chk i (pc, ins, len, 5, a, b0) = true) (hw1 : ∀ w ∈ am_word i (pc, ins, len, 5, a, b0), w ∈ am_GW) (h : am_nw al ins a S SK = some (S', SK', kn)) (hcells : cells + 1 ≤ R.cells) (hslots : slots + kn ≤ R.slots)
    (k : ∀ (H' : Heap), va_S (fun q => base ≤ q) s.heap H' locs → am_dyn al scr Dg base b cs SK' D H' → W p l e R s m args below meth c H' locs (cells + 1) (slots + kn) Q (F0 m (pc + len) ls (S'.map (am_tr base b)))) : W p l e R s m args below meth c H locs cells slots Q (F0 m pc ls (S.map (am_tr base b))) := by
  have had : SK.length < 1000000 → am_ad base b SK.length = base + SK.length := fun hl => if_neg (fun q => by rw [q] at hl; exact absurd hl (by decide))
  unfold am_nw at h
  split at h
  · split at h
    next hc0 =>
      obtain ⟨rfl, hl, ha⟩ := hc0
      cases h
      obtain ⟨h4, h5⟩ := hY.2.2.1 rfl
      obtain ⟨k1, k2, k3, k4⟩ := am_cls_ok _ ha
      simp only [am_chk, Bool.and_eq_true, beq_iff_eq] at hc
      obtain ⟨rfl, -⟩ := hc
      have hKn := hK.1 a _ k1
      refine W.newcK hx hb hown (hts _ (hw1 _ (by simp [am_word]))) (hts _ (hw1 _ (by simp [am_word]))) (hts _ (hw1 _ (by simp [am_word]))) rfl hd hcells hslots hKn.2.1 h4 fun H' kC hkC e1 z1 o1 => ?_
      rw [show (Value.ref (base + SK.length) :: S.map (am_tr base b)) = (Value.ref SK.length :: S).map (am_tr base b) by simp [am_tr, had hl]]
      refine k H' (hS.push (by rw [z1, h4]) (fun q hq => o1 q (by omega))) (hY.push ⟨_, k1, (u_born (am_ty a) hts k2 hKn hkC e1 k3).to fun j hj => ?_⟩ (by rw [z1, h4]) (fun q hq => o1 q (by omega)))
      show defaultValue (am_ty a j) = vp_V ((am_dflt a).mapIdx (am_fv base b fun _ => 0)) j
      unfold vp_V
      rw [List.getD_eq_getElem?_getD, List.getElem?_mapIdx]
      unfold am_dflt
      rw [List.getElem?_map, List.getElem?_range hj]
      rcases am_dflt_ok a ha j hj with h7 | ⟨h6, h7⟩
      · simp [h7, am_fv, defaultValue]
      · simp [h6, h7, am_fv, am_tr]
    next => cases h
  · split at h
    next hc0 =>
      obtain ⟨rfl, hl, hn, hle⟩ := hc0
      cases h
      obtain ⟨h4, h5⟩ := hY.2.2.1 rfl
      obtain rfl : len = 2 := by simpa [am_chk] using hc
      refine va_newaK hx hb (hts _ (hw1 _ (by simp [am_word]))) rfl hd rfl hn rfl (by show _ * 4 ≤ _; omega) hcells hslots h4 fun H' cA e1 z1 o1 hAr hNm => ?_
      have hcA : cA = cs.1 := Option.some.inj (hNm.symm.trans (hK.2 0 _ rfl).2)
      subst hcA
      rw [show ∀ T : List Value, (Value.ref (base + SK.length) :: T.map (am_tr base b)) = (Value.ref SK.length :: T).map (am_tr base b) from fun T => by simp [am_tr, had hl]]
      refine k H' (hS.push (by rw [z1, h4]) (fun q hq => o1 q (by omega))) (hY.push ?_ (by rw [z1, h4]) (fun q hq => o1 q (by omega)))
      exact e1
    next => cases h
  · split at h
    next idx n S0 hc0 =>
      obtain ⟨rfl, hl, hn, hle⟩ := hc0
      cases h
      obtain ⟨h4, h5⟩ := hY.2.2.1 rfl
      obtain rfl : len = 3 := by simpa [am_chk] using hc
      refine W.anew hx hb hown (hts _ (hw1 _ (by simp [am_word]))) (va_AO.use hAO) rfl hd rfl hn (by omega) hcells hslots fun cA kA comp f1 f2 f3 f4 => ?_
      generalize hH1 : H.push ({ cls := cA, slots := Array.replicate n.toNatClampNeg .null, vm := .none } : Cell) = H1
      have z1 : H1.size = H.size + 1 := by rw [← hH1, Array.size_push]
      have e1 : H1[H.size]? = some (arrV cA n.toNatClampNeg (fun _ => .null)) := by rw [← hH1, Array.getElem?_push_size, ← arrV_new]
      have o1 : ∀ q : Nat, q < H.size → H1[q]? = H[q]? := fun q hq => by rw [← hH1, Array.getElem?_push, if_neg (Nat.ne_of_lt hq)]
      obtain ⟨kA', comp', -, -, -, hNm⟩ := (hK.2 1 _ rfl).2
      have hcA : cA = cs.2 := Option.some.inj (f1.symm.trans hNm)
      subst hcA
      rw [h4] at e1
      rw [show H.size = base + SK.length from h4]
      rw [show ∀ T : List Value, (Value.ref (base + SK.length) :: T.map (am_tr base b)) = (Value.ref SK.length :: T).map (am_tr base b) from fun T => by simp [am_tr, had hl]]
      refine k H1 (hS.push z1 o1) (hY.push ?_ z1 o1)
      show H1[base + SK.length]? = some (vp_cell _ _)
      rw [e1, vp_cell_q]
      congr 2
      funext j
      simp only [List.getD_eq_getElem?_getD, List.getElem?_replicate]
      by_cases hj : j < n.toNatClampNeg <;> simp [hj, va_rf]
    next => cases h
  · cases h
set_option maxHeartbeats 4000000 in
theorem am_sim_lib (hx : p.tables.exec = Jvm.exec) (hb : c.code = am_b i) (hml : c.maxLocals = ls.size) (hown : s.vm.findClass (am_own i) = some m.cls) (hts : ∀ w ∈ am_GW, w.before args s = true) (hK : va_K Dg vwCl (am_tyl cs) s)
    (hfr : am_fr i ≤ R.frames) (hlo : am_lo i ≤ R.locals) (hcells : cells ≤ R.cells) (hslots : slots ≤ R.slots)
    (hS : va_S (fun q => base ≤ q) s.heap H locs) (hY : am_dyn al scr Dg base b cs SK D H)
    {S S' : List Value} (hd : decode (am_b i) pc = .ok (ins, len)) (hc : am_chk i (pc, ins, len, 6, a, b0) = true) (hw1 : ∀ w ∈ am_word i (pc, ins, len, 6, a, b0), w ∈ am_GW) (h : am_lib a b0 S SK D = some (S', D'))
    (k : ∀ (H' : Heap) (locs' : List Loc), va_S (fun q => base ≤ q) s.heap H' locs' → am_dyn al scr Dg base b cs SK D' H' → W p l e R s m args below meth c H' locs' cells slots Q (F0 m (pc + len) ls (S'.map (am_tr base b)))) : W p l e R s m args below meth c H locs cells slots Q (F0 m pc ls (S.map (am_tr base b))) := by
  unfold am_lib at h
  split at h
  · next r S0 =>
    split at h
    next h8 =>
      cases h
      obtain ⟨idx, rfl, rfl, hf, hl⟩ := am_chk61 hc
      have hr := lv_room (m := m) (pc := pc) (ls := ls) (rest := (Value.ref r :: S').map (am_tr base b)) (st := S'.map (am_tr base b)) (by rw [am_words_map]; exact h8)
      exact W.objInit hx hb hown (hts _ (hw1 _ (by simp [am_word]))) (hts _ (hw1 _ (by simp [am_word]))) (hts _ (hw1 _ (by simp [am_word]))) rfl hml.symm rfl hd (by omega) (by omega) (k H locs hS hY)
    next => cases h
  · next y x S0 =>
    split at h
    next h8 =>
      cases h
      obtain ⟨idx, rfl, rfl, hf, hl⟩ := am_chk62 hc
      exact va_mmax hx hb hml hown (hts _ (hw1 _ (by simp [am_word]))) (hts _ (hw1 _ (by simp [am_word]))) (hts _ (hw1 _ (by simp [am_word]))) (hts _ (hw1 _ (by simp [am_word]))) (by omega) (by rw [am_words_map]; omega) hcells hslots hd (k H locs hS hY)
    next => cases h
  · next y x S0 =>
    split at h
    next h8 =>
      cases h
      obtain ⟨idx, rfl, rfl, hf, hl⟩ := am_chk63 hc
      exact va_mmin hx hb hml hown (hts _ (hw1 _ (by simp [am_word]))) (hts _ (hw1 _ (by simp [am_word]))) (hts _ (hw1 _ (by simp [am_word]))) (hts _ (hw1 _ (by simp [am_word]))) (by omega) (by rw [am_words_map]; omega) hcells hslots hd (k H locs hS hY)
    next => cases h
  · next n dp r sp q S0 =>
    split at h
    next n0 rs0 n1 rs1 hat0 hat1 =>
      obtain ⟨hk0, hr0⟩ := am_at_spec hat0
      obtain ⟨hk1, hr1⟩ := am_at_spec hat1
      split at h
      next hcc =>
        obtain ⟨h8, h1, h2, h3, h4, h5⟩ := hcc
        cases h
        obtain ⟨idx, rfl, rfl, hf, hl⟩ := am_chk64 hc
        show W p l e R s m args below meth c H locs cells slots Q (F0 m pc ls (.int n :: .int dp :: .ref (am_ad base b r) :: .int sp :: .ref (am_ad base b q) :: S'.map (am_tr base b)))
        rw [am_ad_of hr0, am_ad_of hr1]
        have nn : ∀ z : Int32, ¬ z < 0 → z.toInt = (z.toNatClampNeg : Int) := by
          intro z hz
          have hz0 : (0 : Int) ≤ z.toInt := by
            have := Int32.not_lt.mp hz
            simpa using Int32.le_iff_toInt_le.mp this
          show z.toInt = ((z.toInt.toNat : Nat) : Int)
          omega
        intro T hT X
        have hc0 : H[base + q]? = some (vp_cell cs.1 (n0, .inl (D q))) := hY.1 q _ hk0
        have hc1 : H[base + r]? = some (vp_cell cs.1 (n1, .inl (D r))) := hY.1 r _ hk1
        obtain ⟨-, k0, hk0', cm0, hkk0⟩ := (hK.2 0 _ rfl).1 n0 (fun j => .int (D q j))
        obtain ⟨-, k1, hk1', cm1, hkk1⟩ := (hK.2 0 _ rfl).1 n1 (fun j => .int (D r j))
        have hrm := lv_room (m := m) (pc := pc) (ls := ls) (rest := .int n :: .int dp :: .ref (base + r) :: .int sp :: .ref (base + q) :: S'.map (am_tr base b)) (st := S'.map (am_tr base b)) (by rw [am_words_map]; exact h8)
        obtain ⟨vm', X', step⟩ := X.arraycopy (own := am_own i) (index := idx) hx hown (hts _ (hw1 _ (by simp [am_word]))) (hts _ (hw1 _ (by simp [am_word]))) (hts _ (hw1 _ (by simp [am_word]))) (hts _ (hw1 _ (by simp [am_word]))) (src := base + q) (dst := base + r) (cs := vp_cell cs.1 (n0, .inl (D q))) (cd := vp_cell cs.1 (n1, .inl (D r))) (srcPos := sp) (destPos := dp) (n := n) (by rw [hT]; exact hc0) (by rw [hT]; exact hc1)
          (fun _ h => by cases h) (fun _ h => by cases h) (fun h => by cases h) (fun h => by cases h) hk0' hk1' hkk0 hkk1 (by simp [refKind]) h1 h2 h3
          (by rw [nn sp h1, nn n h3]; show ¬ _ > ((arrV cs.1 n0 (fun j => .int (D q j))).slots.size : Int); rw [arrV_size]; omega)
          (by rw [nn dp h2, nn n h3]; show ¬ _ > ((arrV cs.1 n1 (fun j => .int (D r j))).slots.size : Int); rw [arrV_size]; omega)
          (fun vm₁ _ i hi => by
            have e : (vp_cell cs.1 (n0, .inl (D q))).slots.getD (sp.toNatClampNeg + i) .null = .int (D q (sp.toNatClampNeg + i)) := by
              show (arrV cs.1 n0 (fun j => .int (D q j))).slots.getD _ _ = _
              rw [Array.getD_eq_getD_getElem?, arrV_read _ _ (by omega)]
              rfl
            exact ⟨by rw [e]; rfl, by rw [e]; exact trivial⟩)
          (g := F0 m pc ls (.int n :: .int dp :: .ref (base + r) :: .int sp :: .ref (base + q) :: S'.map (am_tr base b))) rfl hml.symm (rest := S'.map (am_tr base b)) rfl (by rw [hb]; exact hd) (by omega) (by
            have e7 : nativeFrameWords "java/lang/System" "arraycopy" 5 = 7 := by decide +kernel
            rw [e7]; omega)
        have e1 : copied (vp_cell cs.1 (n0, .inl (D q))) (vp_cell cs.1 (n1, .inl (D r))) sp dp n = vp_cell cs.1 (n1, .inl (va_cpy (D q) (D r) sp.toNatClampNeg dp.toNatClampNeg n.toNatClampNeg)) := va_copied (fun z => .int z) cs.1 cs.1 (D q) (D r) h4
        rw [e1] at X' step
        have hl9 : base + r < H.size := (Array.getElem?_eq_some_iff.mp hc1).1
        have hheap : ((T.setVm vm').setCell (base + r) (vp_cell cs.1 (n1, .inl (va_cpy (D q) (D r) sp.toNatClampNeg dp.toNatClampNeg n.toNatClampNeg)))).heap = H.setIfInBounds (base + r) (vp_cell cs.1 (n1, .inl (va_cpy (D q) (D r) sp.toNatClampNeg dp.toNatClampNeg n.toNatClampNeg))) := by rw [← hT]; rfl
        have oq : ∀ z : Nat, z ≠ base + r → (H.setIfInBounds (base + r) (vp_cell cs.1 (n1, .inl (va_cpy (D q) (D r) sp.toNatClampNeg dp.toNatClampNeg n.toNatClampNeg))))[z]? = H[z]? := fun z hz => by simp [Array.getElem?_setIfInBounds, Ne.symm hz]
        have self : am_cpy D q sp.toNatClampNeg r dp.toNatClampNeg n.toNatClampNeg r = va_cpy (D q) (D r) sp.toNatClampNeg dp.toNatClampNeg n.toNatClampNeg := by
          funext j
          simp [am_cpy]
        obtain ⟨t, a1, b1⟩ := k _ _ ⟨by simp; exact hS.1, fun z g1 g2 => by
            rw [oq z (fun e => g2 (by rw [e]; exact Nat.le_add_right _ _))]
            exact hS.2.1 z g1 g2, fun z hz => by
            rcases List.mem_append.mp hz with h | h
            · exact hS.2.2 z h
            · obtain ⟨y, -, hy⟩ := List.mem_map.mp h
              rw [← hy]
              exact Nat.le_add_right _ _⟩ (hY.put hk1 rfl (fun z hz => ⟨rfl, by funext j; simp [am_cpy, hz]⟩) (by rw [self]; exact (show (H.setIfInBounds (base + r) _)[base + r]? = some _ by simp [Array.getElem?_setIfInBounds, hl9])) (by simp) oq) _ hheap X'
        exact ⟨t, step t a1, b1⟩
      next => cases h
    next => cases h
  · cases h
    rcases am_chk65 hc with ⟨idx, rfl, rfl⟩ | ⟨idx, rfl, rfl⟩
    · exact lv_ldcw hx hb hown (hts _ (hw1 _ (by simp [am_word]))) hd (k H locs hS hY)
    · exact lv_ldc hx hb hown (hts _ (hw1 _ (by simp [am_word]))) hd (k H locs hS hY)
  · cases h
end AMS4
