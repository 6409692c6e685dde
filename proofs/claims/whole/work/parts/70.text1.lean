/-! text: letters as naturals, one number, one order -/
/-- the letters: len of them, T -/
def tx (D : am_DD) (len : Nat) (T : Nat → Nat) : Prop := len ≤ 60 ∧ D 45 0 = Int32.ofNat len ∧ D 321 6 = Int32.ofNat len ∧ ∀ j, j < len → D 47 j = Int32.ofNat (T j) ∧ D 326 j = Int32.ofNat (T j) ∧ 33 ≤ T j ∧ T j ≤ 126
theorem tx_of {D : am_DD} (h : tx_ok D) : ∃ len T, tx D len T := by
  obtain ⟨len, t1, t2, t3, t4⟩ := h
  refine ⟨len, fun j => (D 326 j).toNatClampNeg, t1, t2, t3, fun j hj => ?_⟩
  obtain ⟨a, b, c⟩ := t4 j hj
  obtain ⟨x, x1, x2, x3⟩ := rng_nat (a := D 326 j) (hi := 126) ⟨by omega, c⟩
  show D 47 j = Int32.ofNat (D 326 j).toNatClampNeg ∧ D 326 j = Int32.ofNat (D 326 j).toNatClampNeg ∧ 33 ≤ (D 326 j).toNatClampNeg ∧ (D 326 j).toNatClampNeg ≤ 126
  rw [x1, t_ofNat x3] at b
  rw [a, x1, c_ofNat x3]
  exact ⟨rfl, rfl, by omega, by omega⟩
theorem tx.ok {D : am_DD} {len : Nat} {T : Nat → Nat} (h : tx D len T) : tx_ok D := by
  obtain ⟨t1, t2, t3, t4⟩ := h
  refine ⟨len, t1, t2, t3, fun j hj => ?_⟩
  obtain ⟨a, b, c, d⟩ := t4 j hj
  rw [a, b, t_ofNat (by omega)]
  exact ⟨rfl, by omega, by omega⟩
/-- the reference's part of it -/
def txm (D : am_DD) (len : Nat) (T : Nat → Nat) : Prop := len ≤ 60 ∧ True ∧ D 321 6 = Int32.ofNat len ∧ ∀ j, j < len → True ∧ D 326 j = Int32.ofNat (T j) ∧ 33 ≤ T j ∧ T j ≤ 126
theorem tx.m {D : am_DD} {len : Nat} {T : Nat → Nat} (h : tx D len T) : txm D len T := ⟨h.1, trivial, h.2.2.1, fun j hj => ⟨trivial, (h.2.2.2 j hj).2⟩⟩
/-- a number read on: from the place p with v so far, at most B -/
def nr (T : Nat → Nat) (len B : Nat) : Nat → Nat → Nat → Nat × Nat
  | 0, p, v => (p, v)
  | n + 1, p, v => if v ≠ 0 ∧ p < len ∧ 48 ≤ T p ∧ T p ≤ 57 ∧ 10 * v + T p - 48 ≤ B then nr T len B n (p + 1) (10 * v + T p - 48) else (p, v)
/-- a number whose first digit is a or more -/
def num (T : Nat → Nat) (len a B p : Nat) : Option (Nat × Nat) := if p < len ∧ 48 + a ≤ T p ∧ T p ≤ 57 ∧ T p - 48 ≤ B then some (nr T len B (60 - p) (p + 1) (T p - 48)) else none
def kd (c : Nat) : Option (Nat × Nat) := if c = 100 then some (1, 40) else if c = 101 then some (0, 11) else if c = 102 then some (0, 11) else if c = 103 then some (0, 30) else if c = 116 then some (1, 50) else none
/-- a target from the place p -/
def pq (T : Nat → Nat) (len p : Nat) : Nat ⊕ (Nat × Nat) :=
  if p < len ∧ T p = 98 then
    match num T len 0 4 (p + 1) with
    | none => .inl (p + 1)
    | some (e, t) => .inr (e, t + 20)
  else
    match num T len 0 11 p with
    | none => .inl p
    | some (e, t) => .inr (e, t)
/-- gate, exit and target from the place p -/
def pe (T : Nat → Nat) (len p : Nat) : Nat ⊕ (Nat × Nat × Nat × Nat) :=
  match num T len 0 11 p with
  | none => .inl p
  | some (e, v) =>
    if e < len ∧ (T e = 76 ∨ T e = 82) then
      match pq T len (e + 1) with
      | .inl f => .inl f
      | .inr (e', t) => .inr (e', v, if T e = 76 then 0 else 1, t)
    else .inl e
/-- an order from the place p: a fault there, or its end, kind, number, exit and target -/
def pr (T : Nat → Nat) (len p : Nat) : Nat ⊕ (Nat × Nat × Nat × Nat × Nat) :=
  if p < len then
    match kd (T p) with
    | none => .inl p
    | some (a, B) =>
      if T p = 101 then
        match pe T len (p + 1) with
        | .inl f => .inl f
        | .inr (e, v, x, t) => .inr (e, 101, v, x, t)
      else
        match num T len a B (p + 1) with
        | none => .inl (p + 1)
        | some (e, v) => .inr (e, T p, v, 0, 0)
  else .inl p
theorem nr_le {T : Nat → Nat} {len B : Nat} : ∀ n p v, p ≤ (nr T len B n p v).1 ∧ (p ≤ len → (nr T len B n p v).1 ≤ len) ∧ (v ≤ B → (nr T len B n p v).2 ≤ B) := by
  intro n
  induction n with
  | zero => intro p v; exact ⟨Nat.le_refl _, fun h => h, fun h => h⟩
  | succ n ih =>
    intro p v
    unfold nr
    split
    · next h =>
      obtain ⟨a, b, c⟩ := ih (p + 1) (10 * v + T p - 48)
      exact ⟨by omega, fun _ => b (by omega), fun _ => c h.2.2.2.2⟩
    · exact ⟨Nat.le_refl _, fun h => h, fun h => h⟩
/-- where a number ends, it cannot go on -/
theorem nr_end {T : Nat → Nat} {len B : Nat} : ∀ n p v, len ≤ p + n → ¬ ((nr T len B n p v).2 ≠ 0 ∧ (nr T len B n p v).1 < len ∧ 48 ≤ T (nr T len B n p v).1 ∧ T (nr T len B n p v).1 ≤ 57 ∧ 10 * (nr T len B n p v).2 + T (nr T len B n p v).1 - 48 ≤ B) := by
  intro n
  induction n with
  | zero =>
    intro p v h z
    have : p < len := z.2.1
    omega
  | succ n ih =>
    intro p v h
    unfold nr
    split
    · exact ih (p + 1) _ (by omega)
    · next q => exact q
section VT
variable {len : Nat} {T : Nat → Nat}
/-- the reference looks at a letter -/
theorem fn_119_b {D : am_DD} (h : txm D len T) {p : Nat} (hp : D 321 9 = Int32.ofNat p) (hp2 : p ≤ 60) {a b : Nat} (ha : a < 2 ^ 31) (hb : b < 2 ^ 31) : fn_119 (Int32.ofNat a) (Int32.ofNat b) D = some (b01 (p < len ∧ a ≤ T p ∧ T p ≤ b), D) := by
  obtain ⟨t1, t2, t3, t4⟩ := h
  unfold fn_119
  rw [t3, hp]
  by_cases z : p < len
  · obtain ⟨-, x2, x3, x4⟩ := t4 p z
    rw [if_neg (n_nle (by omega) (by omega) z), if_neg (n_bad (by decide) (by omega)), c_ofNat (by omega), x2, fn_26_b]
    have e : rng (Int32.ofNat (T p)) (Int32.ofNat a).toInt (Int32.ofNat b).toInt ↔ (p < len ∧ a ≤ T p ∧ T p ≤ b) := by
      rw [rng, t_ofNat ha, t_ofNat hb, t_ofNat (show T p < 2 ^ 31 by omega)]
      omega
    by_cases w : rng (Int32.ofNat (T p)) (Int32.ofNat a).toInt (Int32.ofNat b).toInt
    · rw [b01_t w, b01_t (e.mp w)]
      rfl
    · rw [b01_f w, b01_f (fun q => w (e.mpr q))]
      rfl
  · rw [if_pos (n_ile (by omega) (by omega) (by omega)), b01_f (fun q => z q.1)]
/-- what the reference may change while it reads -/
def rd_fr (D D' : am_DD) : Prop := ∀ a j, a ≠ 328 → ¬ (a = 321 ∧ (j = 9 ∨ j = 10)) → D' a j = D a j
theorem rd_fr.rf (D : am_DD) : rd_fr D D := fun _ _ _ _ => rfl
theorem rd_fr.tr {D1 D2 D3 : am_DD} (h1 : rd_fr D1 D2) (h2 : rd_fr D2 D3) : rd_fr D1 D3 := fun a j x y => (h2 a j x y).trans (h1 a j x y)
theorem rd_fr.tx {D D' : am_DD} (h : rd_fr D D') (ht : txm D len T) : txm D' len T := by
  obtain ⟨t1, t2, t3, t4⟩ := ht
  refine ⟨t1, trivial, by rw [h 321 6 (by omega) (by omega)]; exact t3, fun j hj => ?_⟩
  rw [h 326 j (by omega) (by omega)]
  exact t4 j hj
theorem fn_120_lp {B s : Nat} (hB : B ≤ 50) (hs : s < 3) : ∀ (n p v N : Nat) (D : am_DD), txm D len T → D 321 9 = Int32.ofNat p → p ≤ len → v ≤ B → len ≤ p + n → n < N → ∃ D', fn_120_55 N (Int32.ofNat s) (Int32.ofNat B) (Int32.ofNat v) D = some (1, D') ∧ D' 321 9 = Int32.ofNat (nr T len B n p v).1 ∧ D' 328 s = Int32.ofNat (nr T len B n p v).2 ∧ (∀ j, j ≠ s → D' 328 j = D 328 j) ∧ D' 321 10 = D 321 10 ∧ rd_fr D D' := by
  intro n
  induction n with
  | zero =>
    intro p v N D ht h9 hp hv hl hN
    obtain ⟨N, rfl⟩ : ∃ n', N = n' + 1 := ⟨N - 1, by omega⟩
    have l60 := ht.1
    have f : fn_119 48 57 D = some (b01 (p < len ∧ 48 ≤ T p ∧ T p ≤ 57), D) := fn_119_b ht h9 (by omega) (a := 48) (b := 57) (by omega) (by omega)
    have stop : ∃ D', some ((1 : Int32), am_upd D 328 s (Int32.ofNat v)) = some (1, D') ∧ D' 321 9 = Int32.ofNat (nr T len B 0 p v).1 ∧ D' 328 s = Int32.ofNat (nr T len B 0 p v).2 ∧ (∀ j, j ≠ s → D' 328 j = D 328 j) ∧ D' 321 10 = D 321 10 ∧ rd_fr D D' :=
      ⟨_, rfl, by rw [u_ne (by omega)]; exact h9, u_self _ _ _ _, fun j hj => u_ne (fun z => hj z.2), u_ne (by omega), fun a j h1 _ => by rw [u_ne (fun z => h1 z.1)]⟩
    rw [fn_120_55]
    by_cases z : v = 0
    · rw [if_pos ((n_pos (by omega)).mpr z), if_neg (n_bad (by decide) hs), c_ofNat (by omega)]
      exact stop
    · rw [if_neg (mt (n_pos (by omega)).mp z), f, b01_f (fun w => by have := w.1; omega)]
      dsimp only
      rw [if_pos rfl, if_neg (n_bad (by decide) hs), c_ofNat (by omega)]
      exact stop
  | succ n ih =>
    intro p v N D ht h9 hp hv hl hN
    obtain ⟨N, rfl⟩ : ∃ n', N = n' + 1 := ⟨N - 1, by omega⟩
    have l60 := ht.1
    have f : fn_119 48 57 D = some (b01 (p < len ∧ 48 ≤ T p ∧ T p ≤ 57), D) := fn_119_b ht h9 (by omega) (a := 48) (b := 57) (by omega) (by omega)
    have stop : nr T len B (n + 1) p v = (p, v) → ∃ D', some ((1 : Int32), am_upd D 328 s (Int32.ofNat v)) = some (1, D') ∧ D' 321 9 = Int32.ofNat (nr T len B (n + 1) p v).1 ∧ D' 328 s = Int32.ofNat (nr T len B (n + 1) p v).2 ∧ (∀ j, j ≠ s → D' 328 j = D 328 j) ∧ D' 321 10 = D 321 10 ∧ rd_fr D D' := fun e => by
      rw [e]
      exact ⟨_, rfl, by rw [u_ne (by omega)]; exact h9, u_self _ _ _ _, fun j hj => u_ne (fun z => hj z.2), u_ne (by omega), fun a j h1 _ => by rw [u_ne (fun z => h1 z.1)]⟩
    rw [fn_120_55]
    by_cases z : v = 0
    · rw [if_pos ((n_pos (by omega)).mpr z), if_neg (n_bad (by decide) hs), c_ofNat (by omega)]
      exact stop (by unfold nr; rw [if_neg (fun w => w.1 z)])
    · rw [if_neg (mt (n_pos (by omega)).mp z), f]
      by_cases w : p < len ∧ 48 ≤ T p ∧ T p ≤ 57
      · obtain ⟨-, x2, x3, x4⟩ := ht.2.2.2 p w.1
        have e10 : (10 : Int32) * Int32.ofNat v + Int32.ofNat (T p) - 48 = Int32.ofNat (10 * v + T p - 48) := by
          have a1 : (10 : Int32) * Int32.ofNat v = Int32.ofNat (10 * v) := n_mul 10 v
          rw [a1, n_add]
          exact n_sub (b := 48) (by omega) (by omega)
        rw [b01_t w]
        dsimp only
        rw [if_neg (by decide), h9, if_neg (n_bad (by decide) (show p < 60 by omega)), c_ofNat (by omega), x2, e10]
        by_cases q : 10 * v + T p - 48 ≤ B
        · rw [if_neg (fun y => by have := (n_lt (by omega) (by omega)).mp y; omega), if_neg (show ¬ (Int32.ofNat p < 0 ∨ 60 ≤ p) by have := n_bad (n := 60) (k := p) (by decide) (by omega); rw [c_ofNat (by omega)] at this; exact this), nI_up]
          have ht' : txm (am_upd D 321 9 (Int32.ofNat (p + 1))) len T := rd_fr.tx (fun a j h1 h2 => by rw [u_ne (fun z => h2 ⟨z.1, Or.inl z.2⟩)]) ht
          obtain ⟨D', i1, i2, i3, i4, i5, i6⟩ := ih (p + 1) (10 * v + T p - 48) N _ ht' (u_self _ _ _ _) (by omega) q (by omega) (by omega)
          have e : nr T len B (n + 1) p v = nr T len B n (p + 1) (10 * v + T p - 48) := by
            show (if _ then _ else _) = _
            rw [if_pos ⟨z, w.1, w.2.1, w.2.2, q⟩]
          rw [e]
          exact ⟨D', i1, i2, i3, fun j hj => by rw [i4 j hj, u_ne (by omega)], by rw [i5, u_ne (by omega)], fun a j h1 h2 => by rw [i6 a j h1 h2, u_ne (fun z => h2 ⟨z.1, Or.inl z.2⟩)]⟩
        · rw [if_pos ((n_lt (by omega) (by omega)).mpr (by omega)), if_neg (n_bad (by decide) hs), c_ofNat (by omega)]
          exact stop (by unfold nr; rw [if_neg (fun y => q y.2.2.2.2)])
      · rw [b01_f w]
        dsimp only
        rw [if_pos rfl, if_neg (n_bad (by decide) hs), c_ofNat (by omega)]
        exact stop (by unfold nr; rw [if_neg (fun y => w ⟨y.2.1, y.2.2.1, y.2.2.2.1⟩)])
/-- a number, as the reference reads it -/
theorem fn_120_n {D : am_DD} {a B s p : Nat} (ht : txm D len T) (h9 : D 321 9 = Int32.ofNat p) (hp : p ≤ len) (ha : a ≤ 1) (hB : B ≤ 50) (hs : s < 3) :
    (num T len a B p = none → fn_120 (Int32.ofNat s) (Int32.ofNat a) (Int32.ofNat B) D = some (0, D)) ∧ ∀ e v, num T len a B p = some (e, v) → ∃ D', fn_120 (Int32.ofNat s) (Int32.ofNat a) (Int32.ofNat B) D = some (1, D') ∧ D' 321 9 = Int32.ofNat e ∧ D' 328 s = Int32.ofNat v ∧ (∀ j, j ≠ s → D' 328 j = D 328 j) ∧ D' 321 10 = D 321 10 ∧ rd_fr D D' ∧ p < e ∧ e ≤ len ∧ v ≤ B := by
  have l60 := ht.1
  have e48 : (48 : Int32) + Int32.ofNat a = Int32.ofNat (48 + a) := n_add 48 a
  have f : fn_119 (48 + Int32.ofNat a) 57 D = some (b01 (p < len ∧ 48 + a ≤ T p ∧ T p ≤ 57), D) := by
    rw [e48]
    exact fn_119_b ht h9 (by omega) (a := 48 + a) (b := 57) (by omega) (by omega)
  unfold num
  by_cases w : p < len ∧ 48 + a ≤ T p ∧ T p ≤ 57
  · obtain ⟨-, x2, x3, x4⟩ := ht.2.2.2 p w.1
    have nb : ¬ (Int32.ofNat p < 0 ∨ 60 ≤ (Int32.ofNat p).toNatClampNeg) := n_bad (by decide) (by omega)
    have e1 : Int32.ofNat (T p) - 48 = Int32.ofNat (T p - 48) := n_sub (b := 48) (by omega) (by omega)
    have hf : fn_120 (Int32.ofNat s) (Int32.ofNat a) (Int32.ofNat B) D = if Int32.ofNat (T p - 48) ≤ Int32.ofNat B then fn_120_55 am_F (Int32.ofNat s) (Int32.ofNat B) (Int32.ofNat (T p - 48)) (am_upd D 321 9 (Int32.ofNat (p + 1))) else some (0, D) := by
      unfold fn_120
      rw [f, b01_t w]
      dsimp only
      rw [if_neg (by decide), h9]
      simp only [if_neg nb]
      rw [c_ofNat (by omega), x2, e1, nI_up]
    by_cases q : T p - 48 ≤ B
    · rw [if_pos ⟨w.1, w.2.1, w.2.2, q⟩]
      refine ⟨fun z => (by cases z), fun e v z => ?_⟩
      have ht' : txm (am_upd D 321 9 (Int32.ofNat (p + 1))) len T := rd_fr.tx (fun a j h1 h2 => by rw [u_ne (fun z => h2 ⟨z.1, Or.inl z.2⟩)]) ht
      obtain ⟨D', i1, i2, i3, i4, i5, i6⟩ := fn_120_lp hB hs (60 - p) (p + 1) (T p - 48) 100000 _ ht' (u_self _ _ _ _) (by omega) q (by omega) (by omega)
      obtain ⟨n1, n2, n3⟩ := nr_le (T := T) (len := len) (B := B) (60 - p) (p + 1) (T p - 48)
      have ez := Option.some.inj z
      rw [ez] at i2 i3 n1 n2 n3
      have n2' : e ≤ len := n2 (by omega)
      have n1' : p + 1 ≤ e := n1
      refine ⟨D', ?_, i2, i3, fun j hj => by rw [i4 j hj, u_ne (by omega)], by rw [i5, u_ne (by omega)], fun a j h1 h2 => by rw [i6 a j h1 h2, u_ne (fun z => h2 ⟨z.1, Or.inl z.2⟩)], by omega, n2', n3 q⟩
      rw [hf, if_pos (n_ile (by omega) (by omega) q)]
      exact i1
    · rw [if_neg (fun y => q y.2.2.2)]
      refine ⟨fun _ => ?_, fun e v z => by cases z⟩
      rw [hf, if_neg (n_nle (by omega) (by omega) (by omega))]
  · rw [if_neg (fun y => w ⟨y.1, y.2.1, y.2.2.1⟩)]
    refine ⟨fun _ => ?_, fun e v z => by cases z⟩
    unfold fn_120
    rw [f, b01_f w]
    rfl
/-- a letter looked for: taken, if it is there -/
theorem fn_121_n {D : am_DD} {c p : Nat} (ht : txm D len T) (h9 : D 321 9 = Int32.ofNat p) (hp : p ≤ len) (hc : c < 200) : (¬ (p < len ∧ T p = c) → ∃ D', fn_121 (Int32.ofNat c) D = some (0, D') ∧ D' 321 9 = Int32.ofNat p ∧ D' 321 10 = D 321 10 ∧ D' 328 = D 328 ∧ rd_fr D D') ∧ (p < len ∧ T p = c → ∃ D', fn_121 (Int32.ofNat c) D = some (1, D') ∧ D' 321 9 = Int32.ofNat (p + 1) ∧ D' 321 10 = D 321 10 ∧ D' 328 = D 328 ∧ rd_fr D D') := by
  have l60 := ht.1
  have f := fn_119_b ht h9 (by omega) (a := c) (b := c) (by omega) (by omega)
  have fr : ∀ v, rd_fr D (am_upd D 321 9 v) := fun v a j h1 h2 => by rw [u_ne (fun z => h2 ⟨z.1, Or.inl z.2⟩)]
  constructor
  · intro w
    refine ⟨am_upd D 321 9 (D 321 9 + 0), ?_, by rw [u_self, Int32.add_zero, h9], u_ne (by omega), u_row (by omega), fr _⟩
    unfold fn_121
    rw [f, b01_f (fun y => w ⟨y.1, by omega⟩)]
    rfl
  · intro w
    refine ⟨am_upd D 321 9 (D 321 9 + 1), ?_, by rw [u_self, h9, nI_up], u_ne (by omega), u_row (by omega), fr _⟩
    unfold fn_121
    rw [f, b01_t ⟨w.1, by omega, by omega⟩]
    rfl
end VT
