/-! one order: its head -/
section VT3
variable {len : Nat} {T : Nat → Nat}
def isbM (r : Option (Int32 × am_DD)) : Option (Int32 × am_DD) := match r with
  | none => none
  | some (y, D') => if ay_isb y then some (y, D') else none
def hdX (c : Int32) (D : am_DD) : am_DD := am_upd (am_upd D 321 10 c) 321 9 ((am_upd D 321 10 c 321 9) + 1)
def hdM (X : am_DD) : Option (Int32 × am_DD) := if X 321 10 = 100 then isbM (fn_120 0 1 40 X) else if X 321 10 = 101 then isbM (fn_122 X) else if X 321 10 = 102 then isbM (fn_120 0 0 11 X) else if X 321 10 = 103 then isbM (fn_120 0 0 30 X) else if X 321 10 = 116 then isbM (fn_120 0 1 50 X) else some (0, am_upd X 321 9 (X 321 9 - 1))
theorem fn_123_eq (D : am_DD) : fn_123 D = if D 321 6 ≤ D 321 9 then hdM (hdX 0 D) else if D 321 9 < 0 ∨ 60 ≤ (D 321 9).toNatClampNeg then none else hdM (hdX (D 326 (D 321 9).toNatClampNeg) D) := by
  unfold fn_123 hdM hdX isbM
  rfl
theorem hd_num {X : am_DD} {a B p : Nat} (ht : txm X len T) (h9 : X 321 9 = Int32.ofNat p) (hp : p ≤ len) (ha : a ≤ 1) (hB : B ≤ 50) :
    (num T len a B p = none → isbM (fn_120 0 (Int32.ofNat a) (Int32.ofNat B) X) = some (0, X)) ∧ ∀ e v, num T len a B p = some (e, v) → ∃ D', isbM (fn_120 0 (Int32.ofNat a) (Int32.ofNat B) X) = some (1, D') ∧ D' 321 9 = Int32.ofNat e ∧ D' 321 10 = X 321 10 ∧ D' 328 0 = Int32.ofNat v ∧ rd_fr X D' := by
  obtain ⟨b0, b1⟩ := fn_120_n (s := 0) ht h9 hp ha hB (by omega)
  refine ⟨fun h => ?_, fun e v h => ?_⟩
  · have q : fn_120 0 (Int32.ofNat a) (Int32.ofNat B) X = some (0, X) := b0 h
    rw [q]
    rfl
  · obtain ⟨D', d1, d2, d3, d4, d5, d6, d7, d8, d9⟩ := b1 e v h
    have q : fn_120 0 (Int32.ofNat a) (Int32.ofNat B) X = some (1, D') := d1
    rw [q]
    exact ⟨D', rfl, d2, d5, d3, d6⟩
theorem pr_num {p a B : Nat} (hp : p < len) (hk : kd (T p) = some (a, B)) (hc : ¬ T p = 101) : pr T len p = match num T len a B (p + 1) with
    | none => .inl (p + 1)
    | some (e, v) => .inr (e, T p, v, 0, 0) := by
  unfold pr
  rw [if_pos hp, hk]
  dsimp only
  rw [if_neg hc]
  cases num T len a B (p + 1) <;> rfl
theorem pr_101 {p : Nat} (hp : p < len) (hc : T p = 101) : pr T len p = match pe T len (p + 1) with
    | .inl f => .inl f
    | .inr (e, v, x, t) => .inr (e, 101, v, x, t) := by
  unfold pr
  have hk : kd (T p) = some (0, 11) := by rw [hc]; rfl
  rw [if_pos hp, hk]
  dsimp only
  rw [if_pos hc]
  cases pe T len (p + 1) <;> rfl
theorem pr_none {p : Nat} (hp : p < len) (hk : kd (T p) = none) : pr T len p = .inl p := by
  unfold pr
  rw [if_pos hp, hk]
theorem pr_end {p : Nat} (hp : ¬ p < len) : pr T len p = .inl p := by
  unfold pr
  rw [if_neg hp]
theorem fn_123_n {D : am_DD} {p : Nat} (ht : txm D len T) (h9 : D 321 9 = Int32.ofNat p) (hp : p ≤ len) :
    (∀ f, pr T len p = .inl f → ∃ D', fn_123 D = some (0, D') ∧ D' 321 9 = Int32.ofNat f ∧ rd_fr D D') ∧ ∀ e k v x t, pr T len p = .inr (e, k, v, x, t) → ∃ D', fn_123 D = some (1, D') ∧ D' 321 9 = Int32.ofNat e ∧ D' 321 10 = Int32.ofNat k ∧ D' 328 0 = Int32.ofNat v ∧ (k = 101 → D' 328 1 = Int32.ofNat x ∧ D' 328 2 = Int32.ofNat t) ∧ rd_fr D D' := by
  have l60 := ht.1
  have hX10 : ∀ c, hdX c D 321 10 = c := fun c => by unfold hdX; rw [u_ne (by decide), u_self]
  have hX9 : ∀ c, hdX c D 321 9 = Int32.ofNat (p + 1) := fun c => by unfold hdX; rw [u_self, u_ne (by decide), h9, nI_up]
  have frX : ∀ c, rd_fr D (hdX c D) := fun c a j h1 h2 => by unfold hdX; rw [u_ne (fun z => h2 ⟨z.1, Or.inl z.2⟩), u_ne (fun z => h2 ⟨z.1, Or.inr z.2⟩)]
  rw [fn_123_eq, ht.2.2.1, h9]
  by_cases w : p < len
  · obtain ⟨-, x2, x3, x4⟩ := ht.2.2.2 p w
    rw [if_neg (n_nle (by omega) (by omega) w), if_neg (n_bad (by decide) (by omega)), c_ofNat (by omega), x2]
    generalize hX : hdX (Int32.ofNat (T p)) D = X
    have z10 : X 321 10 = Int32.ofNat (T p) := by rw [← hX]; exact hX10 _
    have z9 : X 321 9 = Int32.ofNat (p + 1) := by rw [← hX]; exact hX9 _
    have zf : rd_fr D X := by rw [← hX]; exact frX _
    have zt := zf.tx ht
    have ne : ∀ c, c < 200 → ¬ T p = c → ¬ X 321 10 = Int32.ofNat c := fun c hc h z => h (n_inj (by omega) (by omega) (by rw [← z10, z]))
    have eq : ∀ c, T p = c → X 321 10 = Int32.ofNat c := fun c h => by rw [z10, h]
    have gen : ∀ a B, kd (T p) = some (a, B) → ¬ T p = 101 → a ≤ 1 → B ≤ 50 → hdM X = isbM (fn_120 0 (Int32.ofNat a) (Int32.ofNat B) X) → (∀ f, pr T len p = .inl f → ∃ D', hdM X = some (0, D') ∧ D' 321 9 = Int32.ofNat f ∧ rd_fr D D') ∧ ∀ e k v x t, pr T len p = .inr (e, k, v, x, t) → ∃ D', hdM X = some (1, D') ∧ D' 321 9 = Int32.ofNat e ∧ D' 321 10 = Int32.ofNat k ∧ D' 328 0 = Int32.ofNat v ∧ (k = 101 → D' 328 1 = Int32.ofNat x ∧ D' 328 2 = Int32.ofNat t) ∧ rd_fr D D' := by
      intro a B hk hc ha hB hm
      obtain ⟨b0, b1⟩ := hd_num zt z9 (show p + 1 ≤ len by omega) ha hB
      rw [pr_num w hk hc, hm]
      cases hn : num T len a B (p + 1) with
      | none =>
        refine ⟨fun f hf => ?_, fun e k v x t hf => (by cases hf)⟩
        cases hf
        exact ⟨X, b0 hn, z9, zf⟩
      | some q =>
        obtain ⟨e0, v0⟩ := q
        obtain ⟨D', d1, d2, d3, d4, d5⟩ := b1 e0 v0 hn
        refine ⟨fun f hf => (by cases hf), fun e k v x t hf => ?_⟩
        cases hf
        exact ⟨D', d1, d2, by rw [d3, z10], d4, fun z => absurd z hc, zf.tr d5⟩
    by_cases c1 : T p = 100
    · refine gen 1 40 (by rw [c1]; rfl) (by omega) (by omega) (by omega) ?_
      unfold hdM
      rw [if_pos (show X 321 10 = 100 from eq 100 c1)]
      rfl
    · by_cases c2 : T p = 101
      · have hm : hdM X = isbM (fn_122 X) := by
          unfold hdM
          rw [if_neg (show ¬ X 321 10 = 100 from ne 100 (by omega) c1), if_pos (show X 321 10 = 101 from eq 101 c2)]
        obtain ⟨b0, b1⟩ := fn_122_n zt z9 (show p + 1 ≤ len by omega)
        rw [pr_101 w c2, hm]
        cases hn : pe T len (p + 1) with
        | inl f0 =>
          obtain ⟨D', d1, d2, d3⟩ := b0 f0 hn
          refine ⟨fun f hf => ?_, fun e k v x t hf => (by cases hf)⟩
          cases hf
          rw [d1]
          exact ⟨D', rfl, d2, zf.tr d3⟩
        | inr q =>
          obtain ⟨e0, v0, x0, t0⟩ := q
          obtain ⟨D', d1, d2, d3, d4, d5, d6, d7, d8⟩ := b1 e0 v0 x0 t0 hn
          refine ⟨fun f hf => (by cases hf), fun e k v x t hf => ?_⟩
          cases hf
          rw [d1]
          exact ⟨D', rfl, d2, by rw [d3, z10, c2], d4, fun _ => ⟨d5, d6⟩, zf.tr d7⟩
      · by_cases c3 : T p = 102
        · refine gen 0 11 (by rw [c3]; rfl) (by omega) (by omega) (by omega) ?_
          unfold hdM
          rw [if_neg (show ¬ X 321 10 = 100 from ne 100 (by omega) c1), if_neg (show ¬ X 321 10 = 101 from ne 101 (by omega) c2), if_pos (show X 321 10 = 102 from eq 102 c3)]
          rfl
        · by_cases c4 : T p = 103
          · refine gen 0 30 (by rw [c4]; rfl) (by omega) (by omega) (by omega) ?_
            unfold hdM
            rw [if_neg (show ¬ X 321 10 = 100 from ne 100 (by omega) c1), if_neg (show ¬ X 321 10 = 101 from ne 101 (by omega) c2), if_neg (show ¬ X 321 10 = 102 from ne 102 (by omega) c3), if_pos (show X 321 10 = 103 from eq 103 c4)]
            rfl
          · by_cases c5 : T p = 116
            · refine gen 1 50 (by rw [c5]; rfl) (by omega) (by omega) (by omega) ?_
              unfold hdM
              rw [if_neg (show ¬ X 321 10 = 100 from ne 100 (by omega) c1), if_neg (show ¬ X 321 10 = 101 from ne 101 (by omega) c2), if_neg (show ¬ X 321 10 = 102 from ne 102 (by omega) c3), if_neg (show ¬ X 321 10 = 103 from ne 103 (by omega) c4), if_pos (show X 321 10 = 116 from eq 116 c5)]
              rfl
            · have hk : kd (T p) = none := by
                unfold kd
                rw [if_neg c1, if_neg c2, if_neg c3, if_neg c4, if_neg c5]
              rw [pr_none w hk]
              refine ⟨fun f hf => ?_, fun e k v x t hf => (by cases hf)⟩
              cases hf
              refine ⟨am_upd X 321 9 (X 321 9 - 1), ?_, ?_, zf.tr (fun a j h1 h2 => by rw [u_ne (fun z => h2 ⟨z.1, Or.inl z.2⟩)])⟩
              · unfold hdM
                rw [if_neg (show ¬ X 321 10 = 100 from ne 100 (by omega) c1), if_neg (show ¬ X 321 10 = 101 from ne 101 (by omega) c2), if_neg (show ¬ X 321 10 = 102 from ne 102 (by omega) c3), if_neg (show ¬ X 321 10 = 103 from ne 103 (by omega) c4), if_neg (show ¬ X 321 10 = 116 from ne 116 (by omega) c5)]
              · rw [u_self, z9]
                exact n_sub (b := 1) (by omega) (by omega)
  · rw [if_pos (n_ile (by omega) (by omega) (by omega)), pr_end w]
    refine ⟨fun f hf => ?_, fun e k v x t hf => (by cases hf)⟩
    cases hf
    refine ⟨am_upd (hdX 0 D) 321 9 (hdX 0 D 321 9 - 1), ?_, ?_, (frX 0).tr (fun a j h1 h2 => by rw [u_ne (fun z => h2 ⟨z.1, Or.inl z.2⟩)])⟩
    · unfold hdM
      rw [hX10, if_neg (by decide), if_neg (by decide), if_neg (by decide), if_neg (by decide), if_neg (by decide)]
    · rw [u_self, hX9]
      exact n_sub (b := 1) (by omega) (by omega)
end VT3
