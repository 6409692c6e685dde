/-! the environment at the law's entry -/
set_option maxRecDepth 100000 in
theorem ax_insts : ∀ ci, ci < 11 → (lw_tbl.any (fun z => decide (Cond.instantiable (am_cls ci).1 (am_cls ci).2.2 = z))) = true := by decide +kernel
theorem ax_any {w : Cond} (h : (lw_tbl.any (fun z => decide (w = z))) = true) : w ∈ lw_tbl := by
  obtain ⟨z, hz, h2⟩ := List.any_eq_true.mp h
  rw [of_decide_eq_true h2]
  exact hz
def ax_narrow : List Cond := flatC (Jvm.Cond.and given_1 narrow_1)
theorem ax_anyn {w : Cond} (h : (ax_narrow.any (fun z => decide (w = z))) = true) : w ∈ ax_narrow := by
  obtain ⟨z, hz, h2⟩ := List.any_eq_true.mp h
  rw [of_decide_eq_true h2]
  exact hz
set_option maxRecDepth 100000 in
theorem ax_txt1 : ax_txt.all (fun q => (lw_tbl.any (fun z => decide (Cond.stringRef RX10 q.1 q.2 = z)))) = true := by decide +kernel
set_option maxRecDepth 100000 in
theorem ax_txt2 : ax_txt.all (fun q => (ax_narrow.any (fun z => decide (Cond.exactly (.string RX10 q.1) "java/lang/String" = z)))) = true := by decide +kernel
set_option maxRecDepth 100000 in
theorem ax_ncs : (am_en.all (fun a => (am_en.take 2).all (fun b => a == b || (ax_narrow.any (fun z => decide (Cond.not (.castable a b) = z)))))) = true := by decide +kernel
set_option maxRecDepth 100000 in
theorem ax_statics : ((lw_tbl ++ ax_narrow).any (fun z => decide (Cond.laysStatic Bundle.tN "UNASSIGNED_STACK" Bundle.steD = z)) && ((lw_tbl ++ ax_narrow).any (fun z => decide (Cond.laysStatic Bundle.tN "SUPPRESSED_SENTINEL" Bundle.listD = z)) && ((lw_tbl ++ ax_narrow).any (fun z => decide (Cond.initialized Bundle.tN = z)) && ((lw_tbl ++ ax_narrow).any (fun z => decide (Cond.isRef (.static Bundle.tN "UNASSIGNED_STACK" Bundle.steD) = z)) && (lw_tbl ++ ax_narrow).any (fun z => decide (Cond.isRef (.static Bundle.tN "SUPPRESSED_SENTINEL" Bundle.listD) = z)))))) = true := by decide +kernel
set_option maxRecDepth 100000 in
theorem ax_arrs : (lw_tbl.any (fun z => decide (Cond.arrayClass .int = z)) && lw_tbl.any (fun z => decide (Cond.arrayOver (.object RX7) = z))) = true := by decide +kernel
theorem ax_arr1 {args : Array Value} {s : State} {ty : FieldType} (h : (Cond.arrayClass ty).before args s = true) (hno : ∀ n, ty ≠ .object n) : ∃ cA, ArrOfT s cA ty ∧ s.vm.findClass ("[" ++ ty.toString) = some cA := by
  obtain ⟨c, k, comp, h1, h2, h3⟩ := Cond.arrayClass_spec (args := args) (first := s) (o := none) (s := s) (idx := []) h
  exact ⟨c, fun n z => ⟨(fun k h => by cases h), k, h2, comp, h3⟩, h1⟩
set_option maxHeartbeats 4000000 in
theorem ax_begin {s : State} {b : Nat} (hts : ∀ w ∈ lw_tbl, w.before #[Value.ref b] s = true) (hgv : (Jvm.Cond.and given_1 narrow_1).before #[Value.ref b] s = true) : ∃ (Dg : va_G) (cs : am_CS), ax_env Dg cs s.heap.size s ∧ am_dyn true none Dg s.heap.size b cs [] (fun _ _ => 0) s.heap := by
  have hfl : ∀ w ∈ ax_narrow, w.before #[Value.ref b] s = true := flat_of_before _ hgv
  have hGW : ∀ w ∈ am_GW, w.before #[Value.ref b] s = true := fun w hw => hts w (List.mem_filter.mp hw).1
  have hall : ∀ w ∈ lw_tbl ++ ax_narrow, w.before #[Value.ref b] s = true := fun w hw => (List.mem_append.mp hw).elim (hts w) (hfl w)
  have hcl : ∀ ci : Nat, ∃ (cC : ClassId) (iS : Nat → Nat), ci < 11 → u_Kn s (am_cls ci).1 (am_cls ci).2.1 (am_cls ci).2.2 cC iS := by
    intro ci
    by_cases h : ci < 11
    · obtain ⟨k1, k2, -, -⟩ := am_cls_ok ci h
      obtain ⟨cC, iS, hK⟩ := u_known (C := (am_cls ci).1) (T := (am_cls ci).2.1) (N := (am_cls ci).2.2) (n := (am_cls ci).2.2) hGW k2 (hts _ (ax_any (ax_insts ci h)))
      exact ⟨cC, iS, fun _ => hK⟩
    · exact ⟨0, fun _ => 0, fun h2 => absurd h2 h⟩
  have harr := ax_arrs
  simp only [Bool.and_eq_true] at harr
  obtain ⟨a1, a4⟩ := harr
  obtain ⟨cI, hI1, hI2⟩ := ax_arr1 (hts _ (ax_any a1)) (fun n h => by cases h)
  obtain ⟨comp, cO, kO, o1, -, o3, o4, o5⟩ := Cond.arrayOver_spec (args := #[Value.ref b]) (first := s) (o := none) (s := s) (idx := []) (hts _ (ax_any a4))
  have hO1 : ArrOfT s cO (.object RX7) := fun n z => ⟨(fun k h => by cases h), kO, o3, comp, o4⟩
  refine ⟨(fun c => Classical.choose (hcl c), fun c => Classical.choose (Classical.choose_spec (hcl c))), (cI, cO), ⟨⟨fun c q hq => ?_, fun k q hq => ?_⟩, fun w hw => va_Nw.of (ax_nest_tab (List.mem_filter.mp hw).2) (hts _ (List.mem_filter.mp hw).1), va_AO.of (hts _ (ax_any a4)), fun q hq => ?_, ?_, ?_, fun x hx y hy hxy => ?_⟩, fun k sc hk => by simp at hk, Nat.le_refl _, fun _ => ⟨by simp, fun _ _ _ => rfl⟩, fun _ h => by cases h⟩
  · have hc : c < 11 := by
      have := (List.getElem?_eq_some_iff.mp hq).1
      simpa [vwCl] using this
    obtain ⟨k1, -, -, -⟩ := am_cls_ok c hc
    have h2 := Classical.choose_spec (Classical.choose_spec (hcl c)) hc
    have e : q = am_cls c := Option.some.inj (hq.symm.trans k1)
    rw [e]
    exact h2
  · match k, hq with
    | 0, hq => cases hq; exact ⟨hI1, hI2⟩
    | 1, hq => cases hq; exact ⟨hO1, kO, comp, o3, o4, o1, o5⟩
    | k + 2, hq => simp [am_tyl] at hq
  · have h1 := hts _ (ax_any (List.all_eq_true.mp ax_txt1 q hq))
    have h2 := hfl _ (ax_anyn (List.all_eq_true.mp ax_txt2 q hq))
    obtain ⟨sa, c, cell, k, q1, -⟩ := Cond.exactly_spec (args := #[Value.ref b]) (first := s) (o := none) (s := s) (idx := []) h2
    refine ⟨sa, ?_, ?_⟩
    · exact h1
    · exact q1
  · have h := ax_statics
    simp only [Bool.and_eq_true] at h
    obtain ⟨h1, h2, h3, h4, h5⟩ := h
    have mk : ∀ {w : Cond}, (lw_tbl ++ ax_narrow).any (fun z => decide (w = z)) = true → w.before #[Value.ref b] s = true := fun {w} hw => by
      obtain ⟨z, hz, e⟩ := List.any_eq_true.mp hw
      rw [of_decide_eq_true e]
      exact hall z hz
    exact vx_Zqof (mk h1) (mk h3) (mk h4) (fun a ha => Nat.not_le.mpr ha)
  · have h := ax_statics
    simp only [Bool.and_eq_true] at h
    obtain ⟨h1, h2, h3, h4, h5⟩ := h
    have mk : ∀ {w : Cond}, (lw_tbl ++ ax_narrow).any (fun z => decide (w = z)) = true → w.before #[Value.ref b] s = true := fun {w} hw => by
      obtain ⟨z, hz, e⟩ := List.any_eq_true.mp hw
      rw [of_decide_eq_true e]
      exact hall z hz
    exact vx_Zqof (mk h2) (mk h3) (mk h5) (fun a ha => Nat.not_le.mpr ha)
  · have h1 := List.all_eq_true.mp (List.all_eq_true.mp ax_ncs x hx) y hy
    simp only [Bool.or_eq_true, beq_iff_eq, hxy, false_or] at h1
    exact va_Nc.of (hfl _ (ax_anyn h1))
