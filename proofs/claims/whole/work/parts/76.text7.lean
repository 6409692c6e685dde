/-! the whole text, as the reference reads it; op_10 -/
section VT7
variable {len : Nat} {T : Nat → Nat}
/-- what the reference may change while it reads a text -/
def rf_fr (D D' : am_DD) : Prop := ∀ a j, a ≠ 328 → ¬ (a = 321 ∧ (j = 9 ∨ j = 10 ∨ j = 12)) → D' a j = D a j
theorem rf_fr.rf (D : am_DD) : rf_fr D D := fun _ _ _ _ => rfl
theorem rf_fr.tr {D1 D2 D3 : am_DD} (h1 : rf_fr D1 D2) (h2 : rf_fr D2 D3) : rf_fr D1 D3 := fun a j x y => (h2 a j x y).trans (h1 a j x y)
theorem rd_fr.rf_ {D1 D2 : am_DD} (h : rd_fr D1 D2) : rf_fr D1 D2 := fun a j x y => h a j x (fun z => y ⟨z.1, by omega⟩)
theorem rf_fr.tx {D D' : am_DD} (h : rf_fr D D') (ht : txm D len T) : txm D' len T := by
  obtain ⟨t1, t2, t3, t4⟩ := ht
  refine ⟨t1, trivial, by rw [h 321 6 (by omega) (by omega)]; exact t3, fun j hj => ?_⟩
  rw [h 326 j (by omega) (by omega)]
  exact t4 j hj
def rdM (N : Nat) (a : Int32) (D : am_DD) : Option (Int32 × am_DD) := match fn_123 D with
  | none => none
  | some (y, D2) => fn_126_15 N a y D2
def rdM2 (N : Nat) (a : Int32) (D : am_DD) : Option (Int32 × am_DD) := match fn_123 D with
  | none => none
  | some (y, D2) => if y = 0 then fn_126_15 N a 0 D2 else fn_126_15 N a 1 D2
theorem rdM2_eq {N p : Nat} {a : Int32} {D : am_DD} (ht : txm D len T) (h9 : D 321 9 = Int32.ofNat p) (hp : p ≤ len) : rdM2 N a D = rdM N a D := by
  obtain ⟨c0, c1⟩ := fn_123_n ht h9 hp
  unfold rdM2 rdM
  cases hr : pr T len p with
  | inl f =>
    obtain ⟨D', d1, -, -⟩ := c0 f hr
    rw [d1]
    rfl
  | inr q =>
    obtain ⟨e, k, v, x, t⟩ := q
    obtain ⟨D', d1, -⟩ := c1 e k v x t hr
    rw [d1]
    rfl
theorem fn_126_0 (N : Nat) (a : Int32) (D : am_DD) : fn_126_15 (N + 1) a 0 D = some (0, D) := by
  rw [fn_126_15, if_pos rfl]
/-- behind an order -/
def nxM (N : Nat) (a : Int32) (D : am_DD) : Option (Int32 × am_DD) := if ¬ D 321 9 = D 321 6 then (match fn_121 59 D with
  | none => none
  | some (y7, D8) => if y7 = 0 then fn_126_15 N a 0 D8 else rdM2 N a D8) else some (1, D)
theorem fn_126_1 (N : Nat) (D : am_DD) : fn_126_15 (N + 1) 0 1 D = nxM N 0 (am_upd D 321 12 (D 321 12 + 1)) := by
  rw [fn_126_15, if_neg (by decide), if_pos rfl]
  unfold nxM rdM2
  rfl
theorem nx_e {N : Nat} {a : Int32} {D : am_DD} (ht : txm D len T) (h9 : D 321 9 = Int32.ofNat len) : nxM N a D = some (1, D) := by
  unfold nxM
  rw [h9, ht.2.2.1, if_neg (not_not_intro rfl)]
theorem nx_x {N e : Nat} {a : Int32} {D : am_DD} (ht : txm D len T) (h9 : D 321 9 = Int32.ofNat e) (he : e < len) (hT : ¬ T e = 59) : ∃ D', nxM (N + 1) a D = some (0, D') ∧ D' 321 9 = Int32.ofNat e ∧ rd_fr D D' := by
  have l60 := ht.1
  obtain ⟨D', d1, d2, d3, d4, d5⟩ := (fn_121_n (c := 59) ht h9 (by omega) (by omega)).1 (fun z => hT z.2)
  have d1' : fn_121 59 D = some (0, D') := d1
  refine ⟨D', ?_, d2, d5⟩
  unfold nxM
  rw [h9, ht.2.2.1, if_pos (n_ne (by omega) (by omega) (by omega)), d1']
  dsimp only
  rw [if_pos rfl, fn_126_0]
theorem nx_m {N e : Nat} {a : Int32} {D : am_DD} (ht : txm D len T) (h9 : D 321 9 = Int32.ofNat e) (he : e < len) (hT : T e = 59) : ∃ D', nxM N a D = rdM N a D' ∧ D' 321 9 = Int32.ofNat (e + 1) ∧ D' 321 10 = D 321 10 ∧ D' 328 = D 328 ∧ rd_fr D D' := by
  have l60 := ht.1
  obtain ⟨D', d1, d2, d3, d4, d5⟩ := (fn_121_n (c := 59) ht h9 (by omega) (by omega)).2 ⟨he, hT⟩
  have d1' : fn_121 59 D = some (1, D') := d1
  refine ⟨D', ?_, d2, d3, d4, d5⟩
  unfold nxM
  rw [h9, ht.2.2.1, if_pos (n_ne (by omega) (by omega) (by omega)), d1']
  dsimp only
  rw [if_neg (by decide)]
  exact rdM2_eq (d5.tx ht) d2 (by omega)
theorem rf_all : ∀ (n p q N : Nat) (D : am_DD), txm D len T → D 321 9 = Int32.ofNat p → D 321 12 = Int32.ofNat q → p ≤ len → len < n + p → len + 2 < N + p →
    (∀ f, ps T len n p = .inl f → ∃ D', rdM N 0 D = some (0, D') ∧ D' 321 9 = Int32.ofNat f ∧ rf_fr D D') ∧ ∀ w, ps T len n p = .inr w → ∃ D', rdM N 0 D = some (1, D') ∧ D' 321 12 = Int32.ofNat (q + w) ∧ rf_fr D D' := by
  intro n
  induction n with
  | zero => intro p q N D ht h9 h12 hp hn hN; omega
  | succ n ih =>
    intro p q N D ht h9 h12 hp hn hN
    have l60 := ht.1
    obtain ⟨N, rfl⟩ : ∃ n', N = n' + 2 := ⟨N - 2, by omega⟩
    obtain ⟨c0, c1⟩ := fn_123_n ht h9 hp
    cases hr : pr T len p with
    | inl f0 =>
      rw [ps_f hr]
      refine ⟨fun f hf => ?_, fun w hf => (by cases hf)⟩
      cases hf
      obtain ⟨D', d1, d2, d3⟩ := c0 f0 hr
      refine ⟨D', ?_, d2, d3.rf_⟩
      unfold rdM
      rw [d1]
      dsimp only
      rw [fn_126_0]
    | inr z =>
      obtain ⟨e, k, v, x, t⟩ := z
      have bd := pr_bd hr
      obtain ⟨D1, d1, d2, d3, d4, d5, d6⟩ := c1 e k v x t hr
      generalize hD2 : am_upd D1 321 12 (D1 321 12 + 1) = D2
      have f2 : rf_fr D1 D2 := fun a j x y => by rw [← hD2, u_ne (fun z => y (by omega))]
      have t2 := f2.tx (d6.tx ht)
      have e9 : D2 321 9 = Int32.ofNat e := by rw [← hD2, u_ne (by omega)]; exact d2
      have e12 : D2 321 12 = Int32.ofNat (q + 1) := by rw [← hD2, u_self, d6 321 12 (by omega) (by omega), h12, nI_up]
      have hr0 : rdM (N + 2) 0 D = nxM (N + 1) 0 D2 := by
        unfold rdM
        rw [d1]
        dsimp only
        rw [fn_126_1, hD2]
      rw [hr0]
      by_cases he : e = len
      · subst he
        rw [ps_e hr]
        refine ⟨fun f hf => (by cases hf), fun w hf => ?_⟩
        cases hf
        exact ⟨D2, nx_e t2 e9, e12, d6.rf_.tr f2⟩
      · by_cases hT : T e = 59
        · obtain ⟨D3, g1, g2, g3, g4, g5⟩ := nx_m (N := N + 1) (a := 0) t2 e9 (show e < len by omega) hT
          obtain ⟨i0, i1⟩ := ih (e + 1) (q + 1) (N + 1) D3 (g5.tx t2) g2 (by rw [g5 321 12 (by omega) (by omega)]; exact e12) (by omega) (by omega) (by omega)
          rw [ps_m hr he hT, g1]
          cases hm : ps T len n (e + 1) with
          | inl f0 =>
            obtain ⟨D', z1, z2, z3⟩ := i0 f0 hm
            refine ⟨fun f hf => ?_, fun w hf => (by cases hf)⟩
            cases hf
            exact ⟨D', z1, z2, ((d6.rf_.tr f2).tr g5.rf_).tr z3⟩
          | inr w0 =>
            obtain ⟨D', z1, z2, z3⟩ := i1 w0 hm
            refine ⟨fun f hf => (by cases hf), fun w hf => ?_⟩
            cases hf
            exact ⟨D', z1, by rw [z2]; congr 1; omega, ((d6.rf_.tr f2).tr g5.rf_).tr z3⟩
        · obtain ⟨D3, g1, g2, g3⟩ := nx_x (N := N) (a := 0) t2 e9 (show e < len by omega) hT
          rw [ps_x hr he hT]
          refine ⟨fun f hf => ?_, fun w hf => (by cases hf)⟩
          cases hf
          exact ⟨D3, g1, g2, (d6.rf_.tr f2).tr g3.rf_⟩
theorem fn_126_r (a : Int32) (D : am_DD) : fn_126 a D = rdM 100000 a (am_upd (am_upd D 321 9 0) 321 12 0) := by
  unfold fn_126 rdM
  rfl
/-- the check of both -/
theorem chk_c {D : am_DD} (ht : tx D len T) : (∀ f, ps T len 61 0 = .inl f → ∃ D', fn_117 D = some (Int32.ofNat f, D') ∧ f ≤ len ∧ (f = len → fn_104 D' = some (0, D')) ∧ cl_fr 0 D D') ∧ ∀ w, ps T len 61 0 = .inr w → ∃ D' w', fn_117 D = some (Int32.ofNat len, D') ∧ fn_104 D' = some (1, D') ∧ w = w' + 1 ∧ D' 45 3 = Int32.ofNat w' ∧ ods T len D' w 0 0 ∧ cl_fr 0 D D' ∧ w' < 20 := by
  have l60 := ht.1
  generalize hD1 : am_upd (am_upd D 45 2 0) 45 3 0 = D1
  have f1 : cl_fr 0 D D1 := fun a j x y => by rw [← hD1, u_ne (fun z => x (by omega)), u_ne (fun z => x (by omega))]
  have e : fn_117 D = fn_117_12 100000 (Int32.ofNat 0) D1 := by
    unfold fn_117
    rw [hD1]
    rfl
  obtain ⟨c0, c1⟩ := cl_all 61 0 0 100000 D1 (f1.tx ht) (by rw [← hD1, u_ne (by omega), u_self]) (by rw [← hD1, u_self]; rfl) (by omega) (by omega) (by omega) (by omega)
  rw [e]
  refine ⟨fun f hf => ?_, fun w hf => ?_⟩
  · obtain ⟨D', d1, d2, d3, d4⟩ := c0 f hf
    exact ⟨D', d1, d2, d3, f1.tr (Nat.le_refl _) d4⟩
  · obtain ⟨D', w', d1, d2, d3, d4, d5, d6, d7⟩ := c1 w hf
    exact ⟨D', w', d1, d2, d3, by rw [d4, Nat.zero_add], d5, f1.tr (Nat.le_refl _) d6, by omega⟩
theorem chk_m {D : am_DD} (ht : txm D len T) : (∀ f, ps T len 61 0 = .inl f → ∃ D', fn_126 0 D = some (0, D') ∧ D' 321 9 = Int32.ofNat f ∧ rf_fr D D') ∧ ∀ w, ps T len 61 0 = .inr w → ∃ D', fn_126 0 D = some (1, D') ∧ D' 321 12 = Int32.ofNat w ∧ rf_fr D D' := by
  have l60 := ht.1
  rw [fn_126_r]
  generalize hD1 : am_upd (am_upd D 321 9 0) 321 12 0 = D1
  have f1 : rf_fr D D1 := fun a j x y => by rw [← hD1, u_ne (fun z => y (by omega)), u_ne (fun z => y (by omega))]
  obtain ⟨c0, c1⟩ := rf_all 61 0 0 100000 D1 (f1.tx ht) (by rw [← hD1, u_ne (by omega), u_self]; rfl) (by rw [← hD1, u_self]; rfl) (by omega) (by omega) (by omega)
  refine ⟨fun f hf => ?_, fun w hf => ?_⟩
  · obtain ⟨D', d1, d2, d3⟩ := c0 f hf
    exact ⟨D', d1, d2, f1.tr d3⟩
  · obtain ⟨D', d1, d2, d3⟩ := c1 w hf
    exact ⟨D', d1, by rw [d2, Nat.zero_add], f1.tr d3⟩
theorem cl_fr.agr {D D' : am_DD} (h : cl_fr 0 D D') : in_agr D D' := fun a j hs => by
  refine h a j (fun z => ?_) (fun z => ?_)
  · obtain ⟨rfl, rfl | rfl⟩ := z <;> exact absurd hs (by decide)
  · obtain ⟨rfl | rfl | rfl | rfl, -⟩ := z <;> simp [in_scr] at hs
theorem rf_fr.agr {D D' : am_DD} (h : rf_fr D D') : in_agr D D' := fun a j hs => by
  refine h a j (fun z => ?_) (fun z => ?_)
  · subst z; simp [in_scr] at hs
  · obtain ⟨rfl, rfl | rfl | rfl⟩ := z <;> exact absurd hs (by decide)
end VT7
theorem tx_z {len : Nat} {T : Nat → Nat} {D : am_DD} {v : Int32} (h : tx D len T) : tx (am_upd D 321 7 v) len T := by
  obtain ⟨t1, t2, t3, t4⟩ := h
  refine ⟨t1, by rw [u_ne (by omega)]; exact t2, by rw [u_ne (by omega)]; exact t3, fun j hj => ?_⟩
  rw [u_ne (by omega), u_ne (by omega)]
  exact t4 j hj
theorem op_10 {k : Nat} {D : am_DD} (hi : in_ok k D) : in_w2 k (fn_118 D) fn_127 := by
  obtain ⟨len, T, ht⟩ := tx_of hi.2.2.2
  obtain ⟨c0, c1⟩ := chk_c ht
  have done : ∀ D1 D2 : am_DD, in_agr D D1 → in_agr (am_upd D1 321 7 0) D2 → in_ok (k + 1) D2 := fun D1 D2 h1 h2 => in_ok.agr (by omega) ((h1.upd (by decide)).tr h2) hi
  cases hp : ps T len 61 0 with
  | inl f =>
    obtain ⟨D1, d1, d2, d3, d4⟩ := c0 f hp
    obtain ⟨m0, m1⟩ := chk_m (tx_z (d4.tx ht)).m
    obtain ⟨D2, e1, e2, e3⟩ := m0 f hp
    refine ⟨Int32.ofNat f, D1, D2, ?_, ?_, done D1 D2 d4.agr e3.agr⟩
    · unfold fn_118
      rw [d1]
    · unfold fn_127
      rw [e1]
      dsimp only
      rw [if_pos rfl, e2]
  | inr w =>
    obtain ⟨D1, w', d1, d2, d3, d4, d5, d6, d7⟩ := c1 w hp
    have t1 := tx_z (v := 0) (d6.tx ht)
    obtain ⟨m0, m1⟩ := chk_m t1.m
    obtain ⟨D2, e1, e2, e3⟩ := m1 w hp
    refine ⟨Int32.ofNat len, D1, D2, ?_, ?_, done D1 D2 d6.agr e3.agr⟩
    · unfold fn_118
      rw [d1]
    · unfold fn_127
      rw [e1]
      dsimp only
      rw [if_neg (by decide), (e3.tx t1.m).2.2.1]
