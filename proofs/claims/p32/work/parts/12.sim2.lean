/-! the heap's picture: cell k of the skeleton lies at base + k -/
theorem am_GW_of {w : Cond} (h1 : w ∈ lw_tbl) (h2 : goodWord w = true) : w ∈ am_GW := List.mem_filter.mpr ⟨h1, h2⟩
theorem am_GW_all {ws : List Cond} (h : ws.all (fun w => decide (w ∈ lw_tbl) && goodWord w) = true) : ∀ w ∈ ws, w ∈ am_GW := fun w hw => by
  have h1 := List.all_eq_true.mp h w hw
  simp only [Bool.and_eq_true, decide_eq_true_eq] at h1
  exact am_GW_of h1.1 h1.2
def am_clsok (ci : Nat) : Prop := vwCl[ci]? = some (am_cls ci) ∧ (∀ w ∈ u_ws (am_cls ci).1 (am_cls ci).2.1 (am_cls ci).2.2, w ∈ am_GW) ∧ (∀ k, k < (am_cls ci).2.2 → parseFieldDescriptor ((am_cls ci).2.1 k).2.2.1 = some (am_ty ci k)) ∧ (∀ a, a < (am_cls ci).2.2 → ∀ b, b < (am_cls ci).2.2 → a ≠ b → ((am_cls ci).2.1 a).2.1 ≠ ((am_cls ci).2.1 b).2.1)
set_option maxRecDepth 100000 in
theorem am_cls_ok : ∀ ci, ci < 11 → am_clsok ci := by
  intro ci h
  match ci, h with
  | 0, _ => exact ⟨rfl, am_GW_all (by decide +kernel), tyX0_ok, nmX0⟩
  | 1, _ => exact ⟨rfl, am_GW_all (by decide +kernel), tyX1_ok, nmX1⟩
  | 2, _ => exact ⟨rfl, am_GW_all (by decide +kernel), tyX2_ok, nmX2⟩
  | 3, _ => exact ⟨rfl, am_GW_all (by decide +kernel), tyX3_ok, nmX3⟩
  | 4, _ => exact ⟨rfl, am_GW_all (by decide +kernel), tyX4_ok, nmX4⟩
  | 5, _ => exact ⟨rfl, am_GW_all (by decide +kernel), tyX5_ok, nmX5⟩
  | 6, _ => exact ⟨rfl, am_GW_all (by decide +kernel), tyX6_ok, nmX6⟩
  | 7, _ => exact ⟨rfl, am_GW_all (by decide +kernel), tyX7_ok, nmX7⟩
  | 8, _ => exact ⟨rfl, am_GW_all (by decide +kernel), tyX8_ok, nmX8⟩
  | 9, _ => exact ⟨rfl, am_GW_all (by decide +kernel), tyX9_ok, nmX9⟩
  | 10, _ => exact ⟨rfl, am_GW_all (by decide +kernel), tyX10_ok, nmX10⟩
  | n + 11, h => exact absurd h (by omega)
abbrev am_CS : Type := ClassId × ClassId
def am_fv (base b : Nat) (d : Nat → Int32) (j : Nat) (o : Option Value) : Value := match o with
  | some v => am_tr base b v
  | none => .int (d j)
def am_cell (base b : Nat) (cs : am_CS) (sc : am_SC) (d : Nat → Int32) : va_E := match sc with
  | .inl (ci, fs) => .inr (ci, fs.mapIdx (am_fv base b d))
  | .inr (0, n, _) => .inl (cs.1, n, .inl d)
  | .inr (_, n, rs) => .inl (cs.2, n, .inr (.inr (.inr (.inr (fun j => (rs.getD j none).map (am_ad base b))))))
abbrev am_tyl (cs : am_CS) : List (ClassId × FieldType) := [(cs.1, .int), (cs.2, .object RX7)]
def am_P (Dg : va_G) (base b : Nat) (cs : am_CS) (SK : List am_SC) (D : am_DD) (H : Heap) : Prop := ∀ (k : Nat) (sc : am_SC), SK[k]? = some sc → va_at Dg vwCl (base + k, am_cell base b cs sc (D k)) H
theorem am_P.one {Dg : va_G} {base b : Nat} {cs : am_CS} {SK : List am_SC} {D : am_DD} {H : Heap} (h : am_P Dg base b cs SK D H) {k : Nat} {sc : am_SC} (hk : SK[k]? = some sc) {e : va_E} (he : am_cell base b cs sc (D k) = e) : va_P Dg vwCl [(base + k, e)] H := by
  intro j q hq
  match j, hq with
  | 0, hq => cases hq; rw [← he]; exact h k sc hk
  | j + 1, hq => simp at hq
theorem am_P.put {Dg : va_G} {base b r : Nat} {cs : am_CS} {SK SK' : List am_SC} {D D' : am_DD} {H H' : Heap} (h : am_P Dg base b cs SK D H) {sc' : am_SC} (hr : SK'[r]? = some sc') (ho : ∀ k, k ≠ r → SK'[k]? = SK[k]? ∧ D' k = D k)
    (hn : va_at Dg vwCl (base + r, am_cell base b cs sc' (D' r)) H') (hq : ∀ q, q ≠ base + r → H'[q]? = H[q]?) : am_P Dg base b cs SK' D' H' := by
  intro k sc hk
  by_cases e : k = r
  · subst e
    rw [hr] at hk
    cases hk
    exact hn
  · obtain ⟨o1, o2⟩ := ho k e
    rw [o1] at hk
    rw [o2]
    exact (h k sc hk).kept (hq (base + k) (by omega))
/-- what changes while a frame runs -/
def am_own1 (scr : Option Nat) (Dg : va_G) (base b : Nat) (cs : am_CS) (SK : List am_SC) (D : am_DD) (H : Heap) : Prop := ∀ n, scr = some n → va_at Dg vwCl (b, .inl (cs.1, n, .inl (D am_scr))) H ∧ base + SK.length ≤ b ∧ SK.length ≤ 1000000
def am_dyn (al : Bool) (scr : Option Nat) (Dg : va_G) (base b : Nat) (cs : am_CS) (SK : List am_SC) (D : am_DD) (H : Heap) : Prop := am_P Dg base b cs SK D H ∧ base ≤ H.size ∧ (al = true → H.size = base + SK.length ∧ ∀ k, SK.length ≤ k → ∀ j, D k j = 0) ∧ am_own1 scr Dg base b cs SK D H
theorem am_at_spec {SK : List am_SC} {r : Nat} {sc : am_SC} (h : am_at SK r = some sc) : SK[r]? = some sc ∧ r ≠ am_scr := by
  unfold am_at at h
  split at h
  next hr => exact ⟨h, fun e => by rw [e] at hr; exact absurd hr (by decide)⟩
  next => cases h
theorem am_ad_of {base b r : Nat} (h : r ≠ am_scr) : am_ad base b r = base + r := if_neg h
theorem am_upd_self (D : am_DD) (r k : Nat) (v : Int32) : am_upd D r k v r = upd (D r) k v := by
  funext j
  simp [am_upd, upd]
theorem am_upd_ne (D : am_DD) {r k q : Nat} (v : Int32) (h : q ≠ r) : am_upd D r k v q = D q := by
  funext j
  simp [am_upd, h]
theorem am_zero_upd {SK : List am_SC} {D : am_DD} {r k : Nat} {v : Int32} {sc : am_SC} (hr : SK[r]? = some sc) (h : ∀ k, SK.length ≤ k → ∀ j, D k j = 0) : ∀ q, SK.length ≤ q → ∀ j, am_upd D r k v q j = 0 := by
  intro q hq j
  have hl := (List.getElem?_eq_some_iff.mp hr).1
  rw [am_upd_ne D v (show q ≠ r by omega)]
  exact h q hq j
/-- what a frame has from its beginning: the machine, its code, the words, its room; the tables, the statics that an exception reads; the script, in the law's frame -/
def am_env (Dg : va_G) (cs : am_CS) (A : Nat → Prop) (U : State) (H : Heap) : Prop :=
  va_K Dg vwCl (am_tyl cs) U ∧ (∀ w ∈ am_NW, va_Nw w U) ∧ va_AO RX7 U ∧ True
section AMS2
variable {p : Program} {l : Launch} {e : Env} {R : Room} {s : State} {m : MethodId} {args : Array Value} {below : List Frame} {meth : Method} {c : Code} {H H0 : Heap} {locs : List Loc} {cells slots : Nat} {Q : State → Prop}
variable {pc len a b0 i base b : Nat} {ls : Array Slot} {ins : Instr} {Dg : va_G} {cs : am_CS} {SK SK' : List am_SC} {D D' : am_DD} {scr : Option Nat} {al : Bool}
set_option maxHeartbeats 4000000 in
theorem am_sim_rd (hx : p.tables.exec = Jvm.exec) (hb : c.code = am_b i) (hown : s.vm.findClass (am_own i) = some m.cls) (hts : ∀ w ∈ am_GW, w.before args s = true) (hK : va_K Dg vwCl (am_tyl cs) s) (hN : ∀ w ∈ am_NW, va_Nw w s)
    (hscr : am_own1 scr Dg base b cs SK D H) (hS : va_S (fun q => base ≤ q) s.heap H locs) (hP : am_P Dg base b cs SK D H)
    {S S' : List Value} (hd : decode (am_b i) pc = .ok (ins, len)) (hc : am_chk i (pc, ins, len, 3, a, b0) = true) (hw1 : ∀ w ∈ am_word i (pc, ins, len, 3, a, b0), w ∈ am_GW) (hw2 : ∀ w ∈ am_nword i (pc, ins, len, 3, a, b0), w ∈ am_NW) (h : am_rd scr ins a b0 S SK D = some S')
    (k : W p l e R s m args below meth c H locs cells slots Q (F0 m (pc + len) ls (S'.map (am_tr base b)))) : W p l e R s m args below meth c H locs cells slots Q (F0 m pc ls (S.map (am_tr base b))) := by
  unfold am_rd at h
  split at h
  · next idx r S0 =>
    split at h
    next ci fs hat =>
      obtain ⟨hk, hr⟩ := am_at_spec hat
      split at h
      next hci =>
        obtain ⟨rfl, hlt⟩ := hci
        simp only [am_chk, Bool.and_eq_true, beq_iff_eq, decide_eq_true_eq] at hc
        obtain ⟨⟨rfl, hc12⟩, hcn⟩ := hc
        obtain ⟨k1, k2, k3, k4⟩ := am_cls_ok _ hc12
        have goal : ∀ v : Value, (fs.mapIdx (am_fv base b (D r)))[b0]? = some v → W p l e R s m args below meth c H locs cells slots Q (F0 m (pc + 3) ls (v :: S0.map (am_tr base b))) → W p l e R s m args below meth c H locs cells slots Q (F0 m pc ls ((Value.ref r :: S0).map (am_tr base b))) := by
          intro v hv kv
          show W p l e R s m args below meth c H locs cells slots Q (F0 m pc ls (.ref (am_ad base b r) :: S0.map (am_tr base b)))
          rw [am_ad_of hr]
          by_cases h100 : a < 100
          · have hlk : Cond.fieldLink (am_own i) idx ((am_cls (a % 100)).2.1 b0).1 ((am_cls (a % 100)).2.1 b0).2.1 ((am_cls (a % 100)).2.1 b0).2.2.1 ∈ am_GW := hw1 _ (by
              simp only [am_word, if_pos h100, List.mem_singleton])
            exact va_get (D := Dg) (ws := [(base + r, .inr (a % 100, fs.mapIdx (am_fv base b (D r))))]) (v := v) hx hb hts k2 hown hK (hP.one hk rfl) 0 rfl k1 b0 hlt (hts _ hlk) (fun _ h9 => h9) hv hd kv
          · have hlk : Cond.fieldLinkNest (am_own i) idx ((am_cls (a % 100)).2.1 b0).1 ((am_cls (a % 100)).2.1 b0).2.1 ((am_cls (a % 100)).2.1 b0).2.2.1 RX10 ∈ am_NW := hw2 _ (by
              simp only [am_nword, if_neg h100, List.mem_singleton])
            exact va_getN (D := Dg) (ws := [(base + r, .inr (a % 100, fs.mapIdx (am_fv base b (D r))))]) (v := v) (host := RX10) hx hb hts k2 hown hK (hP.one hk rfl) 0 rfl k1 b0 hlt (va_Nw.use rfl (hN _ hlk)) (fun _ h9 => h9) hv hd kv
        split at h
        next v hv =>
          cases h
          exact goal _ (by rw [List.getElem?_mapIdx, hv]; rfl) k
        next hv =>
          cases h
          exact goal _ (by rw [List.getElem?_mapIdx, hv]; rfl) k
        next => cases h
      next => cases h
    next => cases h
  · next j r S0 =>
    obtain rfl : len = 1 := by simpa [am_chk] using hc
    split at h
    next hr =>
      subst hr
      split at h
      next n =>
        split at h
        next => cases h
        next hin =>
          cases h
          obtain ⟨x1, -, -⟩ := hscr _ rfl
          show W p l e R s m args below meth c H locs cells slots Q (F0 m pc ls (.int j :: .ref (am_ad base b am_scr) :: S0.map (am_tr base b)))
          rw [show am_ad base b am_scr = b from if_pos rfl]
          exact va_iald (ws := [(b, .inl (cs.1, n, .inl (D am_scr)))]) hx hb hK (fun j q hq => by
            match j, hq with
            | 0, hq => cases hq; exact x1
            | j + 1, hq => simp at hq) 0 0 rfl rfl hin hd k
      next => cases h
    next hr0 =>
      split at h
      next n rs hat =>
        obtain ⟨hk, hr⟩ := am_at_spec hat
        split at h
        next => cases h
        next hin =>
          cases h
          show W p l e R s m args below meth c H locs cells slots Q (F0 m pc ls (.int j :: .ref (am_ad base b r) :: S0.map (am_tr base b)))
          rw [am_ad_of hr]
          exact va_iald hx hb hK (hP.one hk rfl) 0 0 rfl rfl hin hd k
      next => cases h
  · next j r S0 =>
    obtain rfl : len = 1 := by simpa [am_chk] using hc
    split at h
    next n rs hat =>
      obtain ⟨hk, hr⟩ := am_at_spec hat
      split at h
      next => cases h
      next hin =>
        cases h
        show W p l e R s m args below meth c H locs cells slots Q (F0 m pc ls (.int j :: .ref (am_ad base b r) :: S0.map (am_tr base b)))
        rw [am_ad_of hr]
        refine va_aldq hx hb hK (hP.one hk rfl) 0 1 rfl rfl hin hd ?_
        refine W.eq ?_ k
        congr 1
        cases hq : rs.getD j.toNatClampNeg none with
        | none => simp [hq, va_rf, am_tr]
        | some q => simp [hq, va_rf, am_tr]
    next => cases h
  · next r S0 =>
    obtain rfl : len = 1 := by simpa [am_chk] using hc
    split at h
    next kd n rs hat =>
      obtain ⟨hk, hr⟩ := am_at_spec hat
      cases h
      show W p l e R s m args below meth c H locs cells slots Q (F0 m pc ls (.ref (am_ad base b r) :: S0.map (am_tr base b)))
      rw [am_ad_of hr]
      match kd, hk with
      | 0, hk => exact va_alen hx hb hK (hP.one hk rfl) 0 0 rfl rfl rfl hd k
      | z + 1, hk => exact va_alen hx hb hK (hP.one hk rfl) 0 1 rfl rfl rfl hd k
    next => cases h
  · cases h
end AMS2
