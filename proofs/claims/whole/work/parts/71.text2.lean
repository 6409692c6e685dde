/-! one order, as the reference reads it -/
section VT2
variable {len : Nat} {T : Nat → Nat}
def tlM (D : am_DD) : Option (Int32 × am_DD) := match fn_121 98 D with
  | none => none
  | some (y, D15) => if ¬ y = 0 then (match fn_120 2 0 4 D15 with | none => none | some (y18, D19) => (if ay_isb y18 then some (y18, (am_upd D19 328 2 ((D19 328 2) + 20))) else none)) else (match fn_120 2 0 11 D15 with | none => none | some (y22, D23) => (if ay_isb y22 then some (y22, D23) else none))
theorem isb0 : ay_isb 0 = true := rfl
theorem isb1 : ay_isb 1 = true := rfl
theorem tlM_n {D : am_DD} {p : Nat} (ht : txm D len T) (h9 : D 321 9 = Int32.ofNat p) (hp : p ≤ len) :
    (∀ f, pq T len p = .inl f → ∃ D', tlM D = some (0, D') ∧ D' 321 9 = Int32.ofNat f ∧ rd_fr D D') ∧ ∀ e t, pq T len p = .inr (e, t) → ∃ D', tlM D = some (1, D') ∧ D' 321 9 = Int32.ofNat e ∧ D' 321 10 = D 321 10 ∧ D' 328 0 = D 328 0 ∧ D' 328 1 = D 328 1 ∧ D' 328 2 = Int32.ofNat t ∧ rd_fr D D' ∧ p < e ∧ e ≤ len ∧ t < 25 := by
  have l60 := ht.1
  obtain ⟨c0, c1⟩ := fn_121_n ht h9 hp (show 98 < 200 by omega)
  unfold pq
  by_cases w : p < len ∧ T p = 98
  · rw [if_pos w]
    obtain ⟨Da, a1, a2, a3, a4, a5⟩ := c1 w
    have a1' : fn_121 98 D = some (1, Da) := a1
    obtain ⟨b0, b1⟩ := fn_120_n (a := 0) (B := 4) (s := 2) (a5.tx ht) a2 (by omega) (by omega) (by omega) (by omega)
    cases hn : num T len 0 4 (p + 1) with
    | none =>
      have b := b0 hn
      have b' : fn_120 2 0 4 Da = some (0, Da) := b
      refine ⟨fun f hf => ?_, fun e t hf => by cases hf⟩
      cases hf
      refine ⟨am_upd Da 328 2 (Da 328 2 + 20), ?_, by rw [u_ne (by omega)]; exact a2, a5.tr (fun a j h1 _ => by rw [u_ne (fun z => h1 z.1)])⟩
      unfold tlM
      rw [a1']
      dsimp only
      rw [if_pos (by decide), b']
      rfl
    | some q =>
      obtain ⟨e0, t0⟩ := q
      obtain ⟨Db, d1, d2, d3, d4, d5, d6, d7, d8, d9⟩ := b1 e0 t0 hn
      have d1' : fn_120 2 0 4 Da = some (1, Db) := d1
      refine ⟨fun f hf => (by cases hf), fun e t hf => ?_⟩
      cases hf
      refine ⟨am_upd Db 328 2 (Db 328 2 + 20), ?_, by rw [u_ne (by omega)]; exact d2, by rw [u_ne (by omega), d5, a3], by rw [u_ne (by omega), d4 0 (by omega), a4], by rw [u_ne (by omega), d4 1 (by omega), a4], ?_, (a5.tr d6).tr (fun a j h1 _ => by rw [u_ne (fun z => h1 z.1)]), by omega, d8, by omega⟩
      · unfold tlM
        rw [a1']
        dsimp only
        rw [if_pos (by decide), d1']
        rfl
      · rw [u_self, d3]
        exact n_add t0 20
  · rw [if_neg w]
    obtain ⟨Da, a1, a2, a3, a4, a5⟩ := c0 w
    have a1' : fn_121 98 D = some (0, Da) := a1
    obtain ⟨b0, b1⟩ := fn_120_n (a := 0) (B := 11) (s := 2) (a5.tx ht) a2 hp (by omega) (by omega) (by omega)
    cases hn : num T len 0 11 p with
    | none =>
      have b := b0 hn
      have b' : fn_120 2 0 11 Da = some (0, Da) := b
      refine ⟨fun f hf => ?_, fun e t hf => by cases hf⟩
      cases hf
      refine ⟨Da, ?_, a2, a5⟩
      unfold tlM
      rw [a1']
      dsimp only
      rw [if_neg (by decide), b']
      rfl
    | some q =>
      obtain ⟨e0, t0⟩ := q
      obtain ⟨Db, d1, d2, d3, d4, d5, d6, d7, d8, d9⟩ := b1 e0 t0 hn
      have d1' : fn_120 2 0 11 Da = some (1, Db) := d1
      refine ⟨fun f hf => (by cases hf), fun e t hf => ?_⟩
      cases hf
      refine ⟨Db, ?_, d2, by rw [d5, a3], by rw [d4 0 (by omega), a4], by rw [d4 1 (by omega), a4], d3, a5.tr d6, d7, d8, by omega⟩
      unfold tlM
      rw [a1']
      dsimp only
      rw [if_neg (by decide), d1']
      rfl
theorem fn_122_tl (D : am_DD) : fn_122 D = (match fn_120 0 0 11 D with | none => none | some (y1, D2) => (if ¬ y1 = 0 then (match fn_121 76 D2 with | none => none | some (y5, D6) => (if y5 = 0 then (match fn_121 82 D6 with | none => none | some (y9, D10) => (if y9 = 0 then some (0, am_upd D10 328 1 (-1)) else tlM (am_upd D10 328 1 1))) else tlM (am_upd D6 328 1 0))) else some (0, D2))) := by
  unfold fn_122 tlM
  have q0 : ∀ D : am_DD, ¬ ¬ (am_upd D 328 1 (-1) 328 1) = -1 := fun D => by rw [u_self]; exact not_not_intro rfl
  have q1 : ∀ D : am_DD, ¬ (am_upd D 328 1 1 328 1) = -1 := fun D => by rw [u_self]; decide
  have q2 : ∀ D : am_DD, ¬ (am_upd D 328 1 0 328 1) = -1 := fun D => by rw [u_self]; decide
  simp only [if_neg (q0 _), if_pos (q1 _), if_pos (q2 _)]
  rfl
theorem fn_122_n {D : am_DD} {p : Nat} (ht : txm D len T) (h9 : D 321 9 = Int32.ofNat p) (hp : p ≤ len) :
    (∀ f, pe T len p = .inl f → ∃ D', fn_122 D = some (0, D') ∧ D' 321 9 = Int32.ofNat f ∧ rd_fr D D') ∧ ∀ e v x t, pe T len p = .inr (e, v, x, t) → ∃ D', fn_122 D = some (1, D') ∧ D' 321 9 = Int32.ofNat e ∧ D' 321 10 = D 321 10 ∧ D' 328 0 = Int32.ofNat v ∧ D' 328 1 = Int32.ofNat x ∧ D' 328 2 = Int32.ofNat t ∧ rd_fr D D' ∧ p < e ∧ e ≤ len ∧ v ≤ 11 ∧ x < 2 ∧ t < 25 := by
  have l60 := ht.1
  have fr1 : ∀ (D : am_DD) v, rd_fr D (am_upd D 328 1 v) := fun D v a j h1 _ => by rw [u_ne (fun z => h1 z.1)]
  obtain ⟨b0, b1⟩ := fn_120_n (a := 0) (B := 11) (s := 0) ht h9 hp (by omega) (by omega) (by omega)
  rw [fn_122_tl]
  unfold pe
  cases hn : num T len 0 11 p with
  | none =>
    have b := b0 hn
    have b' : fn_120 0 0 11 D = some (0, D) := b
    refine ⟨fun f hf => ?_, fun e v x t hf => by cases hf⟩
    cases hf
    rw [b']
    exact ⟨D, rfl, h9, rd_fr.rf D⟩
  | some q =>
    obtain ⟨e0, v0⟩ := q
    obtain ⟨Db, d1, d2, d3, d4, d5, d6, d7, d8, d9⟩ := b1 e0 v0 hn
    have d1' : fn_120 0 0 11 D = some (1, Db) := d1
    rw [d1']
    dsimp only
    rw [if_pos (show ¬ (1 : Int32) = 0 by decide)]
    have tb := d6.tx ht
    obtain ⟨c0, c1⟩ := fn_121_n tb d2 d8 (show 76 < 200 by omega)
    by_cases w : e0 < len ∧ T e0 = 76
    · obtain ⟨Da, a1, a2, a3, a4, a5⟩ := c1 w
      have a1' : fn_121 76 Db = some (1, Da) := a1
      have ta := (fr1 Da 0).tx (a5.tx tb)
      obtain ⟨t0, t1⟩ := tlM_n ta (by rw [u_ne (by omega)]; exact a2) (show e0 + 1 ≤ len by omega)
      rw [a1']
      dsimp only
      rw [if_neg (show ¬ (1 : Int32) = 0 by decide), if_pos ⟨w.1, Or.inl w.2⟩]
      cases hq : pq T len (e0 + 1) with
      | inl f0 =>
        obtain ⟨Dz, z1, z2, z3⟩ := t0 f0 hq
        refine ⟨fun f hf => ?_, fun e v x t hf => by cases hf⟩
        cases hf
        exact ⟨Dz, z1, z2, ((d6.tr a5).tr (fr1 Da 0)).tr z3⟩
      | inr q =>
        obtain ⟨e1, tt⟩ := q
        obtain ⟨Dz, z1, z2, z3, z4, z5, z6, z7, z8, z9, z10⟩ := t1 e1 tt hq
        refine ⟨fun f hf => (by cases hf), fun e v x t hf => ?_⟩
        rw [if_pos w.2] at hf
        cases hf
        exact ⟨Dz, z1, z2, by rw [z3, u_ne (by omega), a3, d5], by rw [z4, u_ne (by omega), a4]; exact d3, by rw [z5, u_self]; rfl, z6, ((d6.tr a5).tr (fr1 Da 0)).tr z7, by omega, z9, d9, by omega, z10⟩
    · obtain ⟨Da, a1, a2, a3, a4, a5⟩ := c0 w
      have a1' : fn_121 76 Db = some (0, Da) := a1
      have ta := a5.tx tb
      rw [a1']
      dsimp only
      rw [if_pos rfl]
      obtain ⟨g0, g1⟩ := fn_121_n ta a2 d8 (show 82 < 200 by omega)
      by_cases w2 : e0 < len ∧ T e0 = 82
      · obtain ⟨Dc, x1, x2, x3, x4, x5⟩ := g1 w2
        have x1' : fn_121 82 Da = some (1, Dc) := x1
        have tc := (fr1 Dc 1).tx (x5.tx ta)
        obtain ⟨t0, t1⟩ := tlM_n tc (by rw [u_ne (by omega)]; exact x2) (show e0 + 1 ≤ len by omega)
        rw [x1']
        dsimp only
        rw [if_neg (show ¬ (1 : Int32) = 0 by decide), if_pos ⟨w2.1, Or.inr w2.2⟩]
        cases hq : pq T len (e0 + 1) with
        | inl f0 =>
          obtain ⟨Dz, z1, z2, z3⟩ := t0 f0 hq
          refine ⟨fun f hf => ?_, fun e v x t hf => by cases hf⟩
          cases hf
          exact ⟨Dz, z1, z2, (((d6.tr a5).tr x5).tr (fr1 Dc 1)).tr z3⟩
        | inr q =>
          obtain ⟨e1, tt⟩ := q
          obtain ⟨Dz, z1, z2, z3, z4, z5, z6, z7, z8, z9, z10⟩ := t1 e1 tt hq
          refine ⟨fun f hf => (by cases hf), fun e v x t hf => ?_⟩
          rw [if_neg (show ¬ T e0 = 76 by omega)] at hf
          cases hf
          exact ⟨Dz, z1, z2, by rw [z3, u_ne (by omega), x3, a3, d5], by rw [z4, u_ne (by omega), x4, a4]; exact d3, by rw [z5, u_self]; rfl, z6, (((d6.tr a5).tr x5).tr (fr1 Dc 1)).tr z7, by omega, z9, d9, by omega, z10⟩
      · obtain ⟨Dc, x1, x2, x3, x4, x5⟩ := g0 w2
        have x1' : fn_121 82 Da = some (0, Dc) := x1
        rw [x1']
        dsimp only
        rw [if_pos rfl, if_neg (fun z => z.2.elim (fun y => w ⟨z.1, y⟩) (fun y => w2 ⟨z.1, y⟩))]
        refine ⟨fun f hf => ?_, fun e v x t hf => by cases hf⟩
        cases hf
        exact ⟨_, rfl, by rw [u_ne (by omega)]; exact x2, ((d6.tr a5).tr x5).tr (fr1 Dc (-1))⟩
end VT2
