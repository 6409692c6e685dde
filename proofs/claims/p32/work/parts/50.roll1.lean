/-! rolling: ball by ball and gate by gate come to the same. T0 g: where the first ball goes from g; T1 g: where the next goes -/
def rs (T0 T1 A : Nat → Nat) (t : Nat) : Nat → Nat
  | 0 => 0
  | G + 1 => rs T0 T1 A t G + ((if T0 G = t then (A G + 1) / 2 else 0) + (if T1 G = t then A G / 2 else 0))
def rl_fp (T0 T1 : Nat → Nat) (m k : Nat) (A : Nat → Nat) : Prop := ∀ t, A t = (if t = 0 then k else 0) + rs T0 T1 A t m
/-- a ball on its way, come to x and not yet counted there -/
def rl_mid (T0 T1 : Nat → Nat) (m k x : Nat) (A : Nat → Nat) : Prop := ∀ t, A t + (if t = x then 1 else 0) = (if t = 0 then k else 0) + rs T0 T1 A t m
theorem rs_congr {T0 T1 A A' : Nat → Nat} {t : Nat} : ∀ G, (∀ g, g < G → (T0 g = t ∨ T1 g = t) → A g = A' g) → rs T0 T1 A t G = rs T0 T1 A' t G := by
  intro G
  induction G with
  | zero => intro _; rfl
  | succ G ih =>
    intro h
    unfold rs
    rw [ih (fun g hg => h g (by omega))]
    by_cases h0 : T0 G = t
    · rw [h G (by omega) (Or.inl h0)]
    · by_cases h1 : T1 G = t
      · rw [h G (by omega) (Or.inr h1)]
      · rw [if_neg h0, if_neg h0, if_neg h1, if_neg h1]
theorem fp_unique {T0 T1 : Nat → Nat} {m k : Nat} {A A' : Nat → Nat} (hT : ∀ g, g < m → g < T0 g ∧ g < T1 g) (h : rl_fp T0 T1 m k A) (h' : rl_fp T0 T1 m k A') : ∀ n t, t < n → A t = A' t := by
  intro n
  induction n with
  | zero => intro t ht; omega
  | succ n ih =>
    intro t ht
    rw [h t, h' t, rs_congr m (fun g hg ho => ih g (by have := hT g hg; omega))]
theorem rs_step {T0 T1 A : Nat → Nat} {t x : Nat} : ∀ G, rs T0 T1 (fun j => if j = x then A j + 1 else A j) t G = rs T0 T1 A t G + (if x < G then (if A x % 2 = 0 then (if T0 x = t then 1 else 0) else (if T1 x = t then 1 else 0)) else 0) := by
  intro G
  induction G with
  | zero => rfl
  | succ G ih =>
    unfold rs
    rw [ih]
    by_cases hx : G = x
    · subst hx
      rw [if_neg (Nat.lt_irrefl G), if_pos rfl, if_pos (Nat.lt_succ_self G)]
      by_cases he : A G % 2 = 0
      · rw [if_pos he]
        by_cases h0 : T0 G = t
        · rw [if_pos h0, if_pos h0, if_pos h0]
          by_cases h1 : T1 G = t
          · rw [if_pos h1, if_pos h1]; omega
          · rw [if_neg h1, if_neg h1]; omega
        · rw [if_neg h0, if_neg h0, if_neg h0]
          by_cases h1 : T1 G = t
          · rw [if_pos h1, if_pos h1]; omega
          · rw [if_neg h1, if_neg h1]
      · rw [if_neg he]
        by_cases h0 : T0 G = t
        · rw [if_pos h0, if_pos h0]
          by_cases h1 : T1 G = t
          · rw [if_pos h1, if_pos h1, if_pos h1]; omega
          · rw [if_neg h1, if_neg h1, if_neg h1]; omega
        · rw [if_neg h0, if_neg h0]
          by_cases h1 : T1 G = t
          · rw [if_pos h1, if_pos h1, if_pos h1]; omega
          · rw [if_neg h1, if_neg h1, if_neg h1]
    · rw [if_neg hx]
      by_cases hl : x < G
      · rw [if_pos hl, if_pos (show x < G + 1 by omega)]; omega
      · rw [if_neg hl, if_neg (show ¬ x < G + 1 by omega)]; omega
/-- the ball passes a gate -/
theorem mid_step {T0 T1 A : Nat → Nat} {m k x : Nat} (hx : x < m) (h : rl_mid T0 T1 m k x A) : rl_mid T0 T1 m k (if A x % 2 = 0 then T0 x else T1 x) (fun j => if j = x then A j + 1 else A j) := by
  intro t
  have h1 := h t
  rw [rs_step, if_pos hx]
  have e : (if t = (if A x % 2 = 0 then T0 x else T1 x) then 1 else 0) = (if A x % 2 = 0 then (if T0 x = t then 1 else 0) else (if T1 x = t then 1 else 0)) := by
    by_cases he : A x % 2 = 0
    · rw [if_pos he, if_pos he]
      by_cases q : T0 x = t
      · rw [if_pos q, if_pos q.symm]
      · rw [if_neg q, if_neg (fun z => q z.symm)]
    · rw [if_neg he, if_neg he]
      by_cases q : T1 x = t
      · rw [if_pos q, if_pos q.symm]
      · rw [if_neg q, if_neg (fun z => q z.symm)]
  rw [e]
  dsimp only
  by_cases q : t = x
  · rw [if_pos q]
    rw [if_pos q] at h1
    omega
  · rw [if_neg q]
    rw [if_neg q] at h1
    omega
/-- the ball comes to its end -/
theorem mid_end {T0 T1 A : Nat → Nat} {m k x : Nat} (hx : ¬ x < m) (h : rl_mid T0 T1 m k x A) : rl_fp T0 T1 m k (fun j => if j = x then A j + 1 else A j) := by
  intro t
  have h1 := h t
  rw [rs_step, if_neg hx]
  dsimp only
  by_cases q : t = x
  · rw [if_pos q]
    rw [if_pos q] at h1
    omega
  · rw [if_neg q]
    rw [if_neg q] at h1
    omega
theorem mid_start {T0 T1 A : Nat → Nat} {m k : Nat} (h : rl_fp T0 T1 m k A) : rl_mid T0 T1 m (k + 1) 0 A := by
  intro t
  have := h t
  by_cases q : t = 0
  · rw [if_pos q, if_pos q]
    rw [if_pos q] at this
    omega
  · rw [if_neg q, if_neg q]
    rw [if_neg q] at this
    omega
/-- gate by gate -/
def bs (T0 T1 : Nat → Nat) (k : Nat) : Nat → Nat → Nat
  | 0, t => if t = 0 then k else 0
  | G + 1, t => bs T0 T1 k G t + ((if T0 G = t then (bs T0 T1 k G G + 1) / 2 else 0) + (if T1 G = t then bs T0 T1 k G G / 2 else 0))
theorem bs_stable {T0 T1 : Nat → Nat} {k m : Nat} (hT : ∀ g, g < m → g < T0 g ∧ g < T1 g) : ∀ c G t, G + c ≤ m → t ≤ G → bs T0 T1 k (G + c) t = bs T0 T1 k G t := by
  intro c
  induction c with
  | zero => intro G t _ _; rfl
  | succ c ih =>
    intro G t h1 h2
    have q := hT (G + c) (by omega)
    have e : bs T0 T1 k (G + (c + 1)) t = bs T0 T1 k (G + c) t + ((if T0 (G + c) = t then (bs T0 T1 k (G + c) (G + c) + 1) / 2 else 0) + (if T1 (G + c) = t then bs T0 T1 k (G + c) (G + c) / 2 else 0)) := rfl
    rw [e, ih G t (by omega) h2, if_neg (by omega), if_neg (by omega), Nat.add_zero]
theorem bs_rs {T0 T1 : Nat → Nat} {k m : Nat} (hT : ∀ g, g < m → g < T0 g ∧ g < T1 g) : ∀ G, G ≤ m → ∀ t, bs T0 T1 k G t = (if t = 0 then k else 0) + rs T0 T1 (bs T0 T1 k m) t G := by
  intro G
  induction G with
  | zero => intro _ t; unfold bs rs; omega
  | succ G ih =>
    intro h t
    have e : bs T0 T1 k m G = bs T0 T1 k G G := by
      have := bs_stable (k := k) hT (m - G) G G (by omega) (Nat.le_refl _)
      rw [show G + (m - G) = m by omega] at this
      exact this
    unfold bs rs
    rw [ih (by omega) t, e]
    omega
theorem bs_fp {T0 T1 : Nat → Nat} {k m : Nat} (hT : ∀ g, g < m → g < T0 g ∧ g < T1 g) : rl_fp T0 T1 m k (bs T0 T1 k m) := bs_rs hT m (Nat.le_refl _)
theorem bs_bound {T0 T1 : Nat → Nat} {k : Nat} : ∀ G t, bs T0 T1 k G t + 1 ≤ (k + 1) * 2 ^ G := by
  intro G
  induction G with
  | zero => intro t; unfold bs; split <;> omega
  | succ G ih =>
    intro t
    have a := ih t
    have b := ih G
    unfold bs
    rw [Nat.pow_succ, ← Nat.mul_assoc]
    generalize (k + 1) * 2 ^ G = M at a b ⊢
    have c : (if T0 G = t then (bs T0 T1 k G G + 1) / 2 else 0) ≤ (bs T0 T1 k G G + 1) / 2 := by split <;> omega
    have d : (if T1 G = t then bs T0 T1 k G G / 2 else 0) ≤ bs T0 T1 k G G / 2 := by split <;> omega
    omega
