/-! writes -/
section AMS3
variable {p : Program} {l : Launch} {e : Env} {R : Room} {s : State} {m : MethodId} {args : Array Value} {below : List Frame} {meth : Method} {c : Code} {H H0 : Heap} {locs : List Loc} {cells slots : Nat} {Q : State → Prop}
variable {pc len a b0 i base b : Nat} {ls : Array Slot} {ins : Instr} {Dg : va_G} {cs : am_CS} {SK SK' : List am_SC} {D D' : am_DD} {scr : Option Nat} {al : Bool}
/-- behind a write at r: the picture, the frame -/
theorem am_dyn.put {r : Nat} {H' : Heap} {sc' : am_SC} (hd : am_dyn al scr Dg base b cs SK D H) (hr : SK'[r]? = some sc') (hlen : SK'.length = SK.length) (ho : ∀ k, k ≠ r → SK'[k]? = SK[k]? ∧ D' k = D k)
    (hn : va_at Dg vwCl (base + r, am_cell base b cs sc' (D' r)) H') (hz : H'.size = H.size) (hq : ∀ q, q ≠ base + r → H'[q]? = H[q]?) : am_dyn al scr Dg base b cs SK' D' H' := by
  obtain ⟨h1, h2, h3, h4⟩ := hd
  have hl := (List.getElem?_eq_some_iff.mp hr).1
  refine ⟨h1.put hr ho hn hq, by rw [hz]; exact h2, fun ha => ⟨by rw [hz, hlen]; exact (h3 ha).1, fun k hk j => ?_⟩, fun n hs => ?_⟩
  · rw [(ho k (by omega)).2]
    exact (h3 ha).2 k (by omega) j
  · obtain ⟨g1, g2, g3⟩ := h4 n hs
    refine ⟨?_, by omega, by omega⟩
    rw [(ho am_scr (by unfold am_scr; omega)).2]
    exact g1.kept (hq b (by omega))
/-- behind a write into the frame's own array -/
theorem am_dyn.putS {H' : Heap} {n j : Nat} {x : Int32} (hd : am_dyn al scr Dg base b cs SK D H) (hs : scr = some n) (hn : va_at Dg vwCl (b, .inl (cs.1, n, .inl (upd (D am_scr) j x))) H') (hz : H'.size = H.size) (hq : ∀ q, q ≠ b → H'[q]? = H[q]?) : am_dyn al scr Dg base b cs SK (am_upd D am_scr j x) H' := by
  obtain ⟨h1, h2, h3, h4⟩ := hd
  obtain ⟨g1, g2, g3⟩ := h4 n hs
  have hb0 : b < H.size := (Array.getElem?_eq_some_iff.mp (show H[b]? = some _ from g1)).1
  refine ⟨fun k sc hk => ?_, by rw [hz]; exact h2, fun ha => ?_, fun n' hs' => ?_⟩
  · have hl := (List.getElem?_eq_some_iff.mp hk).1
    rw [am_upd_ne D x (show k ≠ am_scr by unfold am_scr; omega)]
    exact (h1 k sc hk).kept (hq (base + k) (by omega))
  · exfalso
    have := (h3 ha).1
    omega
  · cases hs.symm.trans hs'
    exact ⟨by rw [am_upd_self]; exact hn, g2, g3⟩
theorem am_fs_set {base b k : Nat} {d : Nat → Int32} {x : Int32} {fs : List (Option Value)} (hk : fs[k]? = some none) : fs.mapIdx (am_fv base b (upd d k x)) = (fs.mapIdx (am_fv base b d)).set k (.int x) := by
  apply List.ext_getElem?
  intro j
  have hl : k < fs.length := (List.getElem?_eq_some_iff.mp hk).1
  by_cases hj : j = k
  · subst hj
    rw [List.getElem?_set_self (by rw [List.length_mapIdx]; exact hl), List.getElem?_mapIdx, hk]
    simp [am_fv, upd]
  · rw [List.getElem?_set_ne (fun q => hj q.symm), List.getElem?_mapIdx, List.getElem?_mapIdx]
    cases hf : fs[j]? with
    | none => rfl
    | some o => cases o <;> simp [am_fv, upd, hj]
theorem am_fs_ref {base b k : Nat} {d : Nat → Int32} {v : Value} {fs : List (Option Value)} (hk : k < fs.length) : (fs.set k (some v)).mapIdx (am_fv base b d) = (fs.mapIdx (am_fv base b d)).set k (am_tr base b v) := by
  apply List.ext_getElem?
  intro j
  by_cases hj : j = k
  · subst hj
    rw [List.getElem?_set_self (by rw [List.length_mapIdx]; exact hk), List.getElem?_mapIdx, List.getElem?_set_self hk]
    simp [am_fv]
  · rw [List.getElem?_set_ne (fun q => hj q.symm), List.getElem?_mapIdx, List.getElem?_mapIdx, List.getElem?_set_ne (fun q => hj q.symm)]
set_option maxHeartbeats 4000000 in
/-- a field is written: any value that fits it -/
theorem am_putfield {ci idx k r : Nat} {v : Value} {fs fs' : List Value} {rest : List Value} (hx : p.tables.exec = Jvm.exec) (hb : c.code = am_b i) (hown : s.vm.findClass (am_own i) = some m.cls) (hts : ∀ w ∈ am_GW, w.before args s = true) (hK : va_K Dg vwCl (am_tyl cs) s) (hN : ∀ w ∈ am_NW, va_Nw w s)
    (hmn : meth.name = (am_y i).name) (hc12 : ci < 11) (hk : k < (am_cls ci).2.2) (hcn : ((am_cls ci).2.1 k).1 = (am_cls ci).1)
    (hlink : (Cond.fieldLink (am_own i) idx (am_cls ci).1 ((am_cls ci).2.1 k).2.1 ((am_cls ci).2.1 k).2.2.1 ∈ am_GW ∧ (((am_cls ci).2.1 k).2.2.2 = true → (am_y i).name = "<init>" ∧ ((am_cls ci).2.1 k).1 = am_own i)) ∨ (Cond.fieldLinkNest (am_own i) idx (am_cls ci).1 ((am_cls ci).2.1 k).2.1 ((am_cls ci).2.1 k).2.2.1 RX10 ∈ am_NW ∧ ((am_cls ci).2.1 k).2.2.2 = false))
    (hn : narrow (am_ty ci k) v = v) (hfit : fits (am_ty ci k) v = true) (hl : k < fs.length) (hfs : fs.set k v = fs') (hat : va_at Dg vwCl (r, .inr (ci, fs)) H) (hd : decode (am_b i) pc = .ok (.putfield idx, 3))
    (kk : ∀ (H' : Heap) (sl : Nat), va_at Dg vwCl (r, .inr (ci, fs')) H' → H'.size = H.size → (∀ q, q ≠ r → H'[q]? = H[q]?) → W p l e R s m args below meth c H' (locs ++ [⟨r, sl⟩]) cells slots Q (F0 m (pc + 3) ls rest)) :
    W p l e R s m args below meth c H locs cells slots Q (F0 m pc ls (v :: .ref r :: rest)) := by
  obtain ⟨k1, k2, k3, k4⟩ := am_cls_ok _ hc12
  have hap := va_apart (own := am_own i) hts k2 (am_ty ci) k3 k4 hK k1
  obtain ⟨r0, h1, cell, q1, q2, q3, q4⟩ := hat
  have hr : r0 = am_cls ci := Option.some.inj (h1.symm.trans k1)
  subst hr
  obtain ⟨hS, hfc, kC, hkC, hkind⟩ := hK.1 ci _ k1
  obtain ⟨cf, kf, fi, f, hi, hsl⟩ := hS k hk
  have hlay := hts _ (k2 _ (u_in_lay hk))
  have hst := (u_facts hfc hkC (u_lays hts k2 hk) hi).1
  have hi' : s.fieldFound? (am_cls ci).1 ((am_cls ci).2.1 k).2.1 ((am_cls ci).2.1 k).2.2.1 = some (cf, kf, fi, f) := by rw [← hcn]; exact hi
  have fin : ∀ H' : Heap, H'[r]? = some (cell.setSlot f.slot v) → H'.size = H.size → (∀ q, q ≠ r → H'[q]? = H[q]?) → W p l e R s m args below meth c H' (locs ++ [⟨r, f.slot⟩]) cells slots Q (F0 m (pc + 3) ls rest) := by
    intro H' e1 e2 e3
    rw [hsl] at e1 ⊢
    refine kk H' _ ⟨_, h1, ?_⟩ e2 e3
    rw [← hfs]
    exact t_OB.to (V := updV (vp_V fs) k v) ⟨_, e1, q2, q3, t_set q4 hap hk v⟩ (fun j _ => vp_updV_set hl v j)
  rcases hlink with ⟨hlk, hfi⟩ | ⟨hlk, hfi⟩
  · by_cases hf : ((am_cls ci).2.1 k).2.2.2 = true
    · obtain ⟨g1, g2⟩ := hfi hf
      unfold u_lay at hlay
      rw [if_pos hf] at hlay
      have hcf : m.cls = cf := by
        obtain ⟨_, _, c', _, _, _, -, -, hf', -, -, -, hown2, -⟩ := Cond.laysFinal_spec hlay
        have e1 : c' = cf := by have := hi.symm.trans hf'; simp at this; exact this.1.symm
        rw [g2] at hown2
        rw [← e1]; exact Option.some.inj (hown.symm.trans hown2)
      have h6 := u_fits hfc hkC hkind (Or.inr hlay) hi (k3 k hk) hn hfit
      exact W.putFinK hx hb hown (hts _ hlk) hi' hst hcf (hmn.trans g1) (by rw [q2]; exact h6) q1 q3 (by rw [hsl]; exact k2_hasslot (q4 k hk)) rfl rfl hd fin
    · unfold u_lay at hlay
      rw [if_neg hf] at hlay
      have h6 := u_store hfc hkC hkind hlay hi (k3 k hk) hn hfit
      exact W.putK hx hb (f := f) ⟨hown, hts _ hlk, ⟨_, _, _, hi'⟩, hst⟩ (by rw [q2]; exact h6) q1 q3 (by rw [hsl]; exact k2_hasslot (q4 k hk)) rfl rfl hd fin
  · unfold u_lay at hlay
    rw [if_neg (by rw [hfi]; decide)] at hlay
    have h6 := u_store hfc hkC hkind hlay hi (k3 k hk) hn hfit
    exact va_WputK hx hb (f := f) hown (va_Nw.use rfl (hN _ hlk)) hi' hst (by rw [q2]; exact h6) q1 q3 (by rw [hsl]; exact k2_hasslot (q4 k hk)) rfl rfl hd fin
theorem am_locs {A : Nat → Prop} {H' : Heap} {r k : Nat} (hS : va_S A H0 H locs) (hz : H'.size = H.size) (hq : ∀ q, q ≠ r → H'[q]? = H[q]?) (hA : A r) : va_S A H0 H' (locs ++ [⟨r, k⟩]) := hS.put hz hq hA
set_option maxHeartbeats 4000000 in
theorem am_sim_wr (hx : p.tables.exec = Jvm.exec) (hb : c.code = am_b i) (hown : s.vm.findClass (am_own i) = some m.cls) (hts : ∀ w ∈ am_GW, w.before args s = true) (hK : va_K Dg vwCl (am_tyl cs) s) (hN : ∀ w ∈ am_NW, va_Nw w s)
    (hmn : meth.name = (am_y i).name) (hS : va_S (fun q => base ≤ q) s.heap H locs) (hY : am_dyn al scr Dg base b cs SK D H)
    {S S' : List Value} (hd : decode (am_b i) pc = .ok (ins, len)) (hc : am_chk i (pc, ins, len, 4, a, b0) = true) (hw1 : ∀ w ∈ am_word i (pc, ins, len, 4, a, b0), w ∈ am_GW) (hw2 : ∀ w ∈ am_nword i (pc, ins, len, 4, a, b0), w ∈ am_NW) (h : am_wr al scr ins a b0 S SK D = some (S', SK', D'))
    (k : ∀ (H' : Heap) (locs' : List Loc), va_S (fun q => base ≤ q) s.heap H' locs' → am_dyn al scr Dg base b cs SK' D' H' → W p l e R s m args below meth c H' locs' cells slots Q (F0 m (pc + len) ls (S'.map (am_tr base b)))) : W p l e R s m args below meth c H locs cells slots Q (F0 m pc ls (S.map (am_tr base b))) := by
  unfold am_wr at h
  split at h
  · next idx v r S0 =>
    split at h
    next ci fs hat =>
      obtain ⟨hk, hr⟩ := am_at_spec hat
      split at h
      next hci =>
        obtain ⟨rfl, hlt⟩ := hci
        simp only [am_chk, Bool.and_eq_true, beq_iff_eq, decide_eq_true_eq, Bool.or_eq_true, Bool.not_eq_true'] at hc
        obtain ⟨⟨⟨rfl, hc12⟩, hcn⟩, hfin⟩ := hc
        have hlink : (Cond.fieldLink (am_own i) idx (am_cls (a % 100)).1 ((am_cls (a % 100)).2.1 b0).2.1 ((am_cls (a % 100)).2.1 b0).2.2.1 ∈ am_GW ∧ (((am_cls (a % 100)).2.1 b0).2.2.2 = true → (am_y i).name = "<init>" ∧ ((am_cls (a % 100)).2.1 b0).1 = am_own i)) ∨ (Cond.fieldLinkNest (am_own i) idx (am_cls (a % 100)).1 ((am_cls (a % 100)).2.1 b0).2.1 ((am_cls (a % 100)).2.1 b0).2.2.1 RX10 ∈ am_NW ∧ ((am_cls (a % 100)).2.1 b0).2.2.2 = false) := by
          by_cases h100 : a < 100
          · have hm : a % 100 = a := Nat.mod_eq_of_lt h100
            refine Or.inl ⟨?_, fun q => ?_⟩
            · rw [← hcn]
              refine hw1 _ ?_
              simp only [am_word, if_pos h100, List.mem_singleton]
            · rcases hfin with z | z
              · rw [q] at z; cases z
              · rw [hm]; exact ⟨z.1.2, z.2⟩
          · refine Or.inr ⟨?_, ?_⟩
            · rw [← hcn]
              refine hw2 _ ?_
              simp only [am_nword, if_neg h100, List.mem_singleton]
            · rcases hfin with z | z
              · exact z
              · exact absurd z.1.1 h100
        split at h
        next x hv =>
          split at h
          next hty =>
            cases h
            show W p l e R s m args below meth c H locs cells slots Q (F0 m pc ls (.int x :: .ref (am_ad base b r) :: S'.map (am_tr base b)))
            rw [am_ad_of hr]
            refine am_putfield hx hb hown hts hK hN hmn hc12 hlt hcn hlink (by rw [hty]; rfl) (by rw [hty]; rfl) (by rw [List.length_mapIdx]; exact (List.getElem?_eq_some_iff.mp hv).1) (am_fs_set hv).symm (hY.1 r _ hk) hd fun H' sl e1 e2 e3 => ?_
            exact k H' _ (am_locs hS e2 e3 (Nat.le_add_right _ _)) (hY.put hk rfl (fun q hq => ⟨rfl, am_upd_ne D x hq⟩) (by rw [am_upd_self]; exact e1) e2 e3)
          next => cases h
        next q0 v0 hv =>
          split at h
          next hty =>
            cases h
            have hl := (List.getElem?_eq_some_iff.mp hv).1
            show W p l e R s m args below meth c H locs cells slots Q (F0 m pc ls (am_tr base b (.ref q0) :: .ref (am_ad base b r) :: S'.map (am_tr base b)))
            rw [am_ad_of hr]
            refine am_putfield hx hb hown hts hK hN hmn hc12 hlt hcn hlink ?_ ?_ (by rw [List.length_mapIdx]; exact hl) (am_fs_ref hl).symm (hY.1 r _ hk) hd fun H' sl e1 e2 e3 => ?_
            · cases hq : am_ty (a % 100) b0 <;> rw [hq] at hty <;> first | rfl | exact absurd hty.1 (by decide)
            · cases hq : am_ty (a % 100) b0 <;> rw [hq] at hty <;> first | rfl | exact absurd hty.1 (by decide)
            · have hl2 : r < SK.length := (List.getElem?_eq_some_iff.mp hk).1
              exact k H' _ (am_locs hS e2 e3 (Nat.le_add_right _ _)) (hY.put (List.getElem?_set_self hl2) (List.length_set) (fun q hq => ⟨List.getElem?_set_ne (fun z => hq z.symm), rfl⟩) e1 e2 e3)
          next => cases h
        next => cases h
      next => cases h
    next => cases h
  · next x j r S0 =>
    obtain rfl : len = 1 := by simpa [am_chk] using hc
    split at h
    next hrs =>
      subst hrs
      split at h
      next n =>
        split at h
        next => cases h
        next hin =>
          cases h
          obtain ⟨x1, x2, x3⟩ := hY.2.2.2 _ rfl
          show W p l e R s m args below meth c H locs cells slots Q (F0 m pc ls (.int x :: .int j :: .ref (am_ad base b am_scr) :: S'.map (am_tr base b)))
          rw [show am_ad base b am_scr = b from if_pos rfl]
          have hcell : H[b]? = some (vp_cell cs.1 (n, .inl (D am_scr))) := x1
          refine W.iast hx hb hcell ((hK.2 0 _ rfl).1 n (fun j => .int (D am_scr j))) (fun q => by cases q) (by show ¬ (j < 0 ∨ (arrV _ _ _).slots.size ≤ _); rw [arrV_size]; exact hin) rfl rfl hd fun H' e1 e2 e3 => ?_
          refine k H' _ (am_locs hS e2 e3 (by omega)) (hY.putS rfl ?_ e2 e3)
          show H'[b]? = some (vp_cell _ _)
          rw [e1, vp_cell_i, vp_cell_i, arrV_store]
          congr 2
          funext q
          by_cases hq : q = j.toNatClampNeg
          · subst hq; simp [updV, upd]
          · simp [updV, upd, hq]
      next => cases h
    next hr0 =>
     split at h
     next n rs hat =>
      obtain ⟨hk, hr⟩ := am_at_spec hat
      split at h
      next => cases h
      next hin =>
        cases h
        show W p l e R s m args below meth c H locs cells slots Q (F0 m pc ls (.int x :: .int j :: .ref (am_ad base b r) :: S'.map (am_tr base b)))
        rw [am_ad_of hr]
        have hcell : H[base + r]? = some (vp_cell cs.1 (n, .inl (D r))) := hY.1 r _ hk
        refine W.iast hx hb hcell ((hK.2 0 _ rfl).1 n (fun j => .int (D r j))) (fun q => by cases q) (by show ¬ (j < 0 ∨ (arrV _ _ _).slots.size ≤ _); rw [arrV_size]; exact hin) rfl rfl hd fun H' e1 e2 e3 => ?_
        refine k H' _ (am_locs hS e2 e3 (Nat.le_add_right _ _)) (hY.put hk rfl (fun q hq => ⟨rfl, am_upd_ne D x hq⟩) ?_ e2 e3)
        show H'[base + r]? = some (vp_cell _ _)
        rw [e1, am_upd_self, vp_cell_i, vp_cell_i, arrV_store]
        congr 2
        funext q
        by_cases hq : q = j.toNatClampNeg
        · subst hq; simp [updV, upd]
        · simp [updV, upd, hq]
     next => cases h
  · next q0 j r S0 =>
    obtain rfl : len = 1 := by simpa [am_chk] using hc
    split at h
    next n rs fs0 hat hat2 =>
      obtain ⟨hk, hr⟩ := am_at_spec hat
      obtain ⟨hk2, hr2⟩ := am_at_spec hat2
      split at h
      next => cases h
      next hin0 =>
        cases h
        have hin : ¬ (j < 0 ∨ n ≤ j.toNatClampNeg) := fun z => hin0 (z.elim Or.inl (fun y => Or.inr (Or.inl y)))
        have hnl : n = rs.length := Classical.not_not.mp fun z => hin0 (Or.inr (Or.inr (Or.inl z)))
        have hlt : j.toNatClampNeg < n := Nat.not_le.mp fun q => hin (Or.inr q)
        show W p l e R s m args below meth c H locs cells slots Q (F0 m pc ls (.ref (am_ad base b q0) :: .int j :: .ref (am_ad base b r) :: S'.map (am_tr base b)))
        rw [am_ad_of hr, am_ad_of hr2]
        have hcell : H[base + r]? = some (vp_cell cs.2 (n, .inr (.inr (.inr (.inr (fun j => (rs.getD j none).map (am_ad base b))))))) := hY.1 r _ hk
        obtain ⟨r', hr', cellV, g1, g2, g3, -⟩ := hY.1 q0 _ hk2
        obtain ⟨y1, y2, -⟩ := am_cls_ok 7 (by decide)
        have hcls := (hK.1 7 _ y1).2
        obtain ⟨kA, comp, k1, k2, k3, -⟩ := (hK.2 1 _ rfl).2
        have hcomp : comp = Dg.1 7 := Option.some.inj (k3.symm.trans hcls.1)
        subst hcomp
        obtain ⟨kC, hkC, -⟩ := hcls.2
        refine W.aast hx hb hcell (fun q h => by cases h) (fun h => by cases h) k1 k2 rfl hkC ⟨fun z => hin (Or.inl z), by show _ < (arrV _ _ _).slots.size; rw [arrV_size]; exact hlt⟩ g1 (fun q h => by rw [g3] at h; cases h) (by rw [g2]; exact hkC) (by rw [g2]; exact va_assign hcls) rfl rfl hd fun H' e1 e2 e3 => ?_
        have hl2 : r < SK.length := (List.getElem?_eq_some_iff.mp hk).1
        refine k H' _ (am_locs hS e2 e3 (Nat.le_add_right _ _)) (hY.put (List.getElem?_set_self hl2) (List.length_set) (fun q hq => ⟨List.getElem?_set_ne (fun z => hq z.symm), rfl⟩) ?_ e2 e3)
        show H'[base + r]? = some (vp_cell _ _)
        rw [e1, vp_cell_q, vp_cell_q, arrV_store]
        congr 2
        funext q
        by_cases hq : q = j.toNatClampNeg
        · subst hq
          simp [updV, List.getD_eq_getElem?_getD, List.getElem?_set_self (show j.toNatClampNeg < rs.length by omega), va_rf, am_ad_of hr2]
        · simp [updV, hq, List.getD_eq_getElem?_getD, List.getElem?_set_ne (fun z => hq z.symm)]
    next => cases h
  · cases h
end AMS3
