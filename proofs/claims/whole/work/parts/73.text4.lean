/-! texts: what the numbers read can be; the whole text -/
section VT4
variable {len : Nat} {T : Nat → Nat}
theorem nr_ge {B : Nat} : ∀ n p v, v ≤ (nr T len B n p v).2 := by
  intro n
  induction n with
  | zero => intro p v; exact Nat.le_refl _
  | succ n ih =>
    intro p v
    unfold nr
    split
    · next h =>
      have := ih (p + 1) (10 * v + T p - 48)
      omega
    · exact Nat.le_refl _
theorem num_bd {a B p e v : Nat} (h : num T len a B p = some (e, v)) : p < len ∧ p < e ∧ e ≤ len ∧ a ≤ v ∧ v ≤ B := by
  unfold num at h
  by_cases w : p < len ∧ 48 + a ≤ T p ∧ T p ≤ 57 ∧ T p - 48 ≤ B
  · rw [if_pos w] at h
    have h2 := Option.some.inj h
    obtain ⟨n1, n2, n3⟩ := nr_le (T := T) (len := len) (B := B) (60 - p) (p + 1) (T p - 48)
    have n4 := nr_ge (T := T) (len := len) (B := B) (60 - p) (p + 1) (T p - 48)
    rw [h2] at n1 n2 n3 n4
    have m1 : p + 1 ≤ e := n1
    have m2 : e ≤ len := n2 (by omega)
    have m3 : v ≤ B := n3 w.2.2.2
    have m4 : T p - 48 ≤ v := n4
    omega
  · rw [if_neg w] at h
    cases h
theorem num_st {a B p e v : Nat} (hl : len ≤ 60) (h : num T len a B p = some (e, v)) : ¬ (v ≠ 0 ∧ e < len ∧ 48 ≤ T e ∧ T e ≤ 57 ∧ 10 * v + T e - 48 ≤ B) := by
  unfold num at h
  by_cases w : p < len ∧ 48 + a ≤ T p ∧ T p ≤ 57 ∧ T p - 48 ≤ B
  · rw [if_pos w] at h
    have h2 := Option.some.inj h
    have n1 := nr_end (T := T) (len := len) (B := B) (60 - p) (p + 1) (T p - 48) (by omega)
    rw [h2] at n1
    exact n1
  · rw [if_neg w] at h
    cases h
theorem pq_in {p f : Nat} (hp : p ≤ len) (h : pq T len p = .inl f) : f ≤ len := by
  unfold pq at h
  by_cases w : p < len ∧ T p = 98
  · rw [if_pos w] at h
    cases hn : num T len 0 4 (p + 1) with
    | none => rw [hn] at h; cases h; omega
    | some q => rw [hn] at h; cases h
  · rw [if_neg w] at h
    cases hn : num T len 0 11 p with
    | none => rw [hn] at h; cases h; omega
    | some q => rw [hn] at h; cases h
theorem pq_bd {p e t : Nat} (h : pq T len p = .inr (e, t)) : p < e ∧ e ≤ len ∧ (t < 12 ∨ (20 ≤ t ∧ t < 25)) := by
  unfold pq at h
  by_cases w : p < len ∧ T p = 98
  · rw [if_pos w] at h
    cases hn : num T len 0 4 (p + 1) with
    | none => rw [hn] at h; cases h
    | some q =>
      obtain ⟨e0, t0⟩ := q
      have b := num_bd hn
      rw [hn] at h
      cases h
      omega
  · rw [if_neg w] at h
    cases hn : num T len 0 11 p with
    | none => rw [hn] at h; cases h
    | some q =>
      obtain ⟨e0, t0⟩ := q
      have b := num_bd hn
      rw [hn] at h
      cases h
      omega
theorem pe_in {p f : Nat} (hp : p ≤ len) (h : pe T len p = .inl f) : f ≤ len := by
  unfold pe at h
  cases hn : num T len 0 11 p with
  | none => rw [hn] at h; cases h; omega
  | some q =>
    obtain ⟨e0, v0⟩ := q
    have b := num_bd hn
    rw [hn] at h
    dsimp only at h
    by_cases w : e0 < len ∧ (T e0 = 76 ∨ T e0 = 82)
    · rw [if_pos w] at h
      cases hq : pq T len (e0 + 1) with
      | inl f0 => rw [hq] at h; cases h; exact pq_in (by omega) hq
      | inr q => rw [hq] at h; cases h
    · rw [if_neg w] at h
      cases h
      omega
theorem pe_bd {p e v x t : Nat} (h : pe T len p = .inr (e, v, x, t)) : p < e ∧ e ≤ len ∧ v ≤ 11 ∧ x < 2 ∧ (t < 12 ∨ (20 ≤ t ∧ t < 25)) := by
  unfold pe at h
  cases hn : num T len 0 11 p with
  | none => rw [hn] at h; cases h
  | some q =>
    obtain ⟨e0, v0⟩ := q
    have b := num_bd hn
    rw [hn] at h
    dsimp only at h
    by_cases w : e0 < len ∧ (T e0 = 76 ∨ T e0 = 82)
    · rw [if_pos w] at h
      cases hq : pq T len (e0 + 1) with
      | inl f0 => rw [hq] at h; cases h
      | inr q =>
        obtain ⟨e1, t1⟩ := q
        have c := pq_bd hq
        rw [hq] at h
        cases h
        refine ⟨by omega, c.2.1, b.2.2.2.2, ?_, c.2.2⟩
        split <;> omega
    · rw [if_neg w] at h
      cases h
/-- what an order that was read can be -/
def okd (k v x t : Nat) : Prop := (k = 100 ∧ 1 ≤ v ∧ v ≤ 40) ∨ (k = 101 ∧ v ≤ 11 ∧ x < 2 ∧ (t < 12 ∨ (20 ≤ t ∧ t < 25))) ∨ (k = 102 ∧ v ≤ 11) ∨ (k = 103 ∧ v ≤ 30) ∨ (k = 116 ∧ 1 ≤ v ∧ v ≤ 50)
theorem kd_c {c a B : Nat} (h : kd c = some (a, B)) : (c = 100 ∧ a = 1 ∧ B = 40) ∨ (c = 101 ∧ a = 0 ∧ B = 11) ∨ (c = 102 ∧ a = 0 ∧ B = 11) ∨ (c = 103 ∧ a = 0 ∧ B = 30) ∨ (c = 116 ∧ a = 1 ∧ B = 50) := by
  unfold kd at h
  by_cases c1 : c = 100
  · rw [if_pos c1] at h; cases h; omega
  · rw [if_neg c1] at h
    by_cases c2 : c = 101
    · rw [if_pos c2] at h; cases h; omega
    · rw [if_neg c2] at h
      by_cases c3 : c = 102
      · rw [if_pos c3] at h; cases h; omega
      · rw [if_neg c3] at h
        by_cases c4 : c = 103
        · rw [if_pos c4] at h; cases h; omega
        · rw [if_neg c4] at h
          by_cases c5 : c = 116
          · rw [if_pos c5] at h; cases h; omega
          · rw [if_neg c5] at h; cases h
theorem pr_in {p f : Nat} (hp : p ≤ len) (h : pr T len p = .inl f) : f ≤ len := by
  by_cases w : p < len
  · cases hk : kd (T p) with
    | none => rw [pr_none w hk] at h; cases h; omega
    | some q =>
      obtain ⟨a, B⟩ := q
      by_cases c : T p = 101
      · rw [pr_101 w c] at h
        cases hn : pe T len (p + 1) with
        | inl f0 => rw [hn] at h; cases h; exact pe_in (by omega) hn
        | inr q => rw [hn] at h; cases h
      · rw [pr_num w hk c] at h
        cases hn : num T len a B (p + 1) with
        | none => rw [hn] at h; cases h; omega
        | some q => rw [hn] at h; cases h
  · rw [pr_end w] at h
    cases h
    exact hp
theorem pr_bd {p e k v x t : Nat} (h : pr T len p = .inr (e, k, v, x, t)) : p + 2 ≤ e ∧ e ≤ len ∧ okd k v x t := by
  unfold okd
  by_cases w : p < len
  · cases hk : kd (T p) with
    | none => rw [pr_none w hk] at h; cases h
    | some q =>
      obtain ⟨a, B⟩ := q
      have kc := kd_c hk
      by_cases c : T p = 101
      · rw [pr_101 w c] at h
        cases hn : pe T len (p + 1) with
        | inl f0 => rw [hn] at h; cases h
        | inr q =>
          obtain ⟨e0, v0, x0, t0⟩ := q
          have b := pe_bd hn
          rw [hn] at h
          cases h
          exact ⟨by omega, b.2.1, Or.inr (Or.inl ⟨rfl, b.2.2⟩)⟩
      · rw [pr_num w hk c] at h
        cases hn : num T len a B (p + 1) with
        | none => rw [hn] at h; cases h
        | some q =>
          obtain ⟨e0, v0⟩ := q
          have b := num_bd hn
          rw [hn] at h
          cases h
          omega
  · rw [pr_end w] at h
    cases h
/-- the whole text from the place p: a fault there, or so many orders -/
def ps (T : Nat → Nat) (len : Nat) : Nat → Nat → Nat ⊕ Nat
  | 0, p => .inl p
  | n + 1, p => match pr T len p with
    | .inl f => .inl f
    | .inr (e, _) => if e = len then .inr 1 else if T e = 59 then (match ps T len n (e + 1) with
      | .inl f => .inl f
      | .inr w => .inr (w + 1)) else .inl e
/-- so many orders, to the end of the text, and the rows of D hold them from i -/
def ods (T : Nat → Nat) (len : Nat) (D : am_DD) : Nat → Nat → Nat → Prop
  | 0, _, _ => False
  | n + 1, p, i => ∃ e k v x t, pr T len p = .inr (e, k, v, x, t) ∧ D 49 i = Int32.ofNat k ∧ D 51 i = Int32.ofNat v ∧ (k = 101 → D 53 i = Int32.ofNat x ∧ D 55 i = Int32.ofNat t) ∧ ((n = 0 ∧ e = len) ∨ (e < len ∧ T e = 59 ∧ ods T len D n (e + 1) (i + 1)))
theorem ps_f {n p f : Nat} (h : pr T len p = .inl f) : ps T len (n + 1) p = .inl f := by
  rw [ps, h]
theorem ps_e {n p k v x t : Nat} (h : pr T len p = .inr (len, k, v, x, t)) : ps T len (n + 1) p = .inr 1 := by
  rw [ps, h]
  dsimp only
  rw [if_pos rfl]
theorem ps_x {n p e k v x t : Nat} (h : pr T len p = .inr (e, k, v, x, t)) (he : e ≠ len) (hT : ¬ T e = 59) : ps T len (n + 1) p = .inl e := by
  rw [ps, h]
  dsimp only
  rw [if_neg he, if_neg hT]
theorem ps_m {n p e k v x t : Nat} (h : pr T len p = .inr (e, k, v, x, t)) (he : e ≠ len) (hT : T e = 59) : ps T len (n + 1) p = match ps T len n (e + 1) with
      | .inl f => .inl f
      | .inr w => .inr (w + 1) := by
  rw [ps, h]
  dsimp only
  rw [if_neg he, if_pos hT]
theorem ods_congr {D D' : am_DD} (h : ∀ a j, (a = 49 ∨ a = 51 ∨ a = 53 ∨ a = 55) → D' a j = D a j) : ∀ n p i, ods T len D n p i → ods T len D' n p i := by
  intro n
  induction n with
  | zero => intro p i z; exact z
  | succ n ih =>
    intro p i ⟨e, k, v, x, t, h1, h2, h3, h4, h5⟩
    refine ⟨e, k, v, x, t, h1, by rw [h 49 i (by omega)]; exact h2, by rw [h 51 i (by omega)]; exact h3, fun z => ?_, h5.imp id (fun y => ⟨y.1, y.2.1, ih _ _ y.2.2⟩)⟩
    rw [h 53 i (by omega), h 55 i (by omega)]
    exact h4 z
end VT4
