/-! the class's chords -/
/-- the run of a note -/
def rn (D : am_DD) : Nat → Nat
  | 0 => 0
  | q + 1 => rn D q + (if be D (q + 1) = be D q then 0 else 1)
theorem rn_step (D : am_DD) (q : Nat) : rn D (q + 1) = rn D q ∨ rn D (q + 1) = rn D q + 1 := by
  show rn D q + _ = _ ∨ rn D q + _ = _
  split
  · exact Or.inl rfl
  · exact Or.inr rfl
theorem rn_le (D : am_DD) : ∀ q, rn D q ≤ q := by
  intro q
  induction q with
  | zero => exact Nat.le_refl _
  | succ q ih =>
    have := rn_step D q
    omega
/-- none of that beat from q to q2 -/
theorem mk_same {D : am_DD} {b : Int32} : ∀ c q, (∀ i, q ≤ i → i < q + c → be D i ≠ b) → mk D b (q + c) = mk D b q := by
  intro c
  induction c with
  | zero => intro q _; rfl
  | succ c ih =>
    intro q h
    have e : mk D b (q + (c + 1)) = if be D (q + c) = b then mk D b (q + c) ||| 2 ^ pt D (q + c) else mk D b (q + c) := rfl
    rw [e, if_neg (h (q + c) (by omega) (by omega)), ih q (fun i a b => h i a (by omega))]
theorem mk_none {D : am_DD} {b : Int32} (q : Nat) (h : ∀ i, i < q → be D i ≠ b) : mk D b q = 0 := by
  have := mk_same (D := D) (b := b) q 0 (fun i _ hi => h i (by omega))
  rw [Nat.zero_add] at this
  exact this
section VK3
variable {D : am_DD} {m n kp o : Nat}
theorem lp_191 (h : vw D m n kp o) (asc : ∀ q q' q2, q ≤ q' → q' ≤ q2 → q2 < kp → be D q = be D q2 → be D q' = be D q) : ∀ (c q N : Nat) (Dc : am_DD), q + 1 + c = kp → c + 1 < N → (∀ a, a ≠ 44 → a ≠ 40 → Dc a = D a) → (∀ j, j ≠ 3 → Dc 40 j = D 40 j) → Dc 40 3 = Int32.ofNat (rn D q) → (∀ i, i < q → rn D i < rn D q → Dc 44 (rn D i) = Int32.ofNat (ch D kp i)) →
    ∃ D1, fn_191_9 N (Int32.ofNat (mk D (be D q) q)) (Int32.ofNat q) Dc = some (0, D1) ∧ (∀ a, a ≠ 44 → a ≠ 40 → D1 a = D a) ∧ (∀ j, j ≠ 3 → D1 40 j = D 40 j) ∧ D1 40 3 = Int32.ofNat (rn D (kp - 1) + 1) ∧ ∀ i, i < kp → D1 44 (rn D i) = Int32.ofNat (ch D kp i) := by
  have hk := h.1.2.2.1
  have body : ∀ (q N : Nat) (Dc : am_DD), q < kp → (∀ a, a ≠ 44 → a ≠ 40 → Dc a = D a) → vw Dc m n kp o ∧ Int32.ofNat (mk D (be D q) q) ||| 1 <<< (Int32.ofNat (pt D q) &&& 31) = Int32.ofNat (mk D (be D q) (q + 1)) ∧ fn_177 (Int32.ofNat q) Dc = some (Int32.ofNat (pt D q), Dc) := fun q N Dc hq hA => by
    have hc : vw Dc m n kp o := vw_congr (fun a ha => hA a (by omega) (by omega)) h
    obtain ⟨p1, p2⟩ := vw_pt h hq
    refine ⟨hc, ?_, ?_⟩
    · rw [n_bit _ (by omega), n_or]
      have e : mk D (be D q) (q + 1) = if be D q = be D q then mk D (be D q) q ||| 2 ^ pt D q else mk D (be D q) q := rfl
      rw [e, if_pos rfl]
    · rw [vw_n2 hc hq, hA 322 (by omega) (by omega), p1]
  intro c
  induction c with
  | zero =>
    intro q N Dc hq hN hA h4 h3 hB
    obtain ⟨N, rfl⟩ : ∃ n', N = n' + 2 := ⟨N - 2, by omega⟩
    obtain ⟨hc, ea, e77⟩ := body q N Dc (by omega) hA
    have hq1 : q = kp - 1 := by omega
    have rl := rn_le D q
    have ek : Int32.ofNat kp - 1 = Int32.ofNat q := by
      have : Int32.ofNat kp - 1 = Int32.ofNat (kp - 1) := n_sub (b := 1) (by omega) (by omega)
      rw [this, hq1]
    have cq : mk D (be D q) (q + 1) = ch D kp q := by unfold ch; rw [hq]
    rw [fn_191_9, hc.2.2.2.1.2.1, if_neg (n_nle (by omega) (by omega) (by omega)), e77]
    dsimp only
    rw [hc.2.2.2.1.2.1, ek, if_pos rfl, ea, h3, rw_put_nI (show rn D q < 60 by omega) (by decide), u_ne (show ¬ (40 = 44 ∧ 3 = rn D q) by omega), h3, nI_up, nI_up]
    have last : am_upd (am_upd Dc 44 (rn D q) (Int32.ofNat (mk D (be D q) (q + 1)))) 40 3 (Int32.ofNat (rn D q + 1)) 26 1 = Int32.ofNat kp := by rw [u_ne (by omega), u_ne (by omega)]; exact hc.2.2.2.1.2.1
    rw [fn_191_9, last, if_pos (n_ile (by omega) (by omega) (by omega))]
    refine ⟨_, rfl, fun a a1 a2 => by rw [u_row a2, u_row a1, hA a a1 a2], fun j hj => by rw [u_ne (by omega), u_ne (by omega), h4 j hj], by rw [u_self, hq1], fun i hi => ?_⟩
    rw [u_ne (by omega)]
    have mono := rn_mono (rn_step D) (q - i) i
    rw [show i + (q - i) = q by omega] at mono
    by_cases z : rn D i = rn D q
    · rw [z, u_self, cq]
      by_cases e : i = q
      · rw [e]
      · have beq : be D i = be D q := by
          have : ∀ c i, i + c = q → rn D i = rn D q → be D i = be D q := by
            intro c
            induction c with
            | zero => intro i hi _; rw [show i = q by omega]
            | succ c ih =>
              intro i hi hr
              have m2 := rn_mono (rn_step D) (q - (i + 1)) (i + 1)
              rw [show i + 1 + (q - (i + 1)) = q by omega] at m2
              have st := rn_step D i
              have e1 : rn D (i + 1) = rn D i + (if be D (i + 1) = be D i then 0 else 1) := rfl
              by_cases w : be D (i + 1) = be D i
              · rw [if_pos w] at e1
                rw [← w]
                exact ih (i + 1) (by omega) (by omega)
              · rw [if_neg w] at e1
                omega
          exact this (q - i) i (by omega) z
        unfold ch
        rw [beq]
    · rw [u_ne (by omega)]
      exact hB i (by
        by_cases e : i = q
        · exact absurd (by rw [e]) z
        · omega) (by omega)
  | succ c ih =>
    intro q N Dc hq hN hA h4 h3 hB
    obtain ⟨N, rfl⟩ : ∃ n', N = n' + 1 := ⟨N - 1, by omega⟩
    obtain ⟨hc, ea, e77⟩ := body q N Dc (by omega) hA
    have rl := rn_le D q
    have nk : ¬ Int32.ofNat q = Int32.ofNat kp - 1 := fun w => by
      have : Int32.ofNat kp - 1 = Int32.ofNat (kp - 1) := n_sub (b := 1) (by omega) (by omega)
      rw [this] at w
      have := n_inj (by omega) (by omega) w
      omega
    have e75 : fn_175 (Int32.ofNat q) Dc = some (be D q, Dc) := by rw [vw_n0 hc (by omega), hA 322 (by omega) (by omega)]; rfl
    have e75' : fn_175 (Int32.ofNat (q + 1)) Dc = some (be D (q + 1), Dc) := by rw [vw_n0 hc (by omega), hA 322 (by omega) (by omega)]; rfl
    have er : rn D (q + 1) = rn D q + (if be D (q + 1) = be D q then 0 else 1) := rfl
    rw [fn_191_9, hc.2.2.2.1.2.1, if_neg (n_nle (by omega) (by omega) (by omega)), e77]
    dsimp only
    rw [hc.2.2.2.1.2.1, if_neg nk, nI_up, e75']
    dsimp only
    rw [e75]
    dsimp only
    by_cases w : be D (q + 1) = be D q
    · rw [if_pos w, ea]
      rw [if_pos w, Nat.add_zero] at er
      have i := ih (q + 1) N Dc (by omega) (by omega) hA h4 (by rw [er]; exact h3) (fun i hi hr => hB i (by
        by_cases e : i = q
        · rw [e, er] at hr; omega
        · omega) (by omega))
      rw [w] at i
      exact i
    · rw [if_neg w, ea, h3, rw_put_nI (show rn D q < 60 by omega) (by decide), u_ne (show ¬ (40 = 44 ∧ 3 = rn D q) by omega), h3, nI_up]
      rw [if_neg w] at er
      have after : ∀ i, q + 1 ≤ i → i < kp → be D i ≠ be D q := fun i h1 h2 e => w (asc q (q + 1) i (by omega) h1 h2 e.symm)
      have cq : mk D (be D q) (q + 1) = ch D kp q := by
        have := mk_same (D := D) (b := be D q) (kp - (q + 1)) (q + 1) (fun i a b => after i a (by omega))
        rw [show q + 1 + (kp - (q + 1)) = kp by omega] at this
        unfold ch
        rw [this]
      have zero : mk D (be D (q + 1)) (q + 1) = 0 := mk_none _ (fun i hi e => w (by
        have := asc i q (q + 1) (by omega) (by omega) (by omega) e
        rw [this]
        exact e.symm))
      have i := ih (q + 1) N (am_upd (am_upd Dc 44 (rn D q) (Int32.ofNat (mk D (be D q) (q + 1)))) 40 3 (Int32.ofNat (rn D q + 1))) (by omega) (by omega) (fun a a1 a2 => by rw [u_row a2, u_row a1, hA a a1 a2]) (fun j hj => by rw [u_ne (by omega), u_ne (by omega), h4 j hj]) (by rw [u_self, er]) (fun i hi hr => by
        rw [u_ne (by omega)]
        by_cases z : rn D i = rn D q
        · rw [z, u_self, cq]
          have beq : be D i = be D q := by
            have : ∀ c i, i + c = q → rn D i = rn D q → be D i = be D q := by
              intro c
              induction c with
              | zero => intro i hi _; rw [show i = q by omega]
              | succ c ih =>
                intro i hi hr
                have m2 := rn_mono (rn_step D) (q - (i + 1)) (i + 1)
                rw [show i + 1 + (q - (i + 1)) = q by omega] at m2
                have st := rn_step D i
                have e1 : rn D (i + 1) = rn D i + (if be D (i + 1) = be D i then 0 else 1) := rfl
                by_cases w : be D (i + 1) = be D i
                · rw [if_pos w] at e1
                  rw [← w]
                  exact ih (i + 1) (by omega) (by omega)
                · rw [if_neg w] at e1
                  omega
            exact this (q - i) i (by omega) z
          unfold ch
          rw [beq]
        · rw [u_ne (by omega)]
          have mono := rn_mono (rn_step D) (q - i) i
          rw [show i + (q - i) = q by omega] at mono
          exact hB i (by
            by_cases e : i = q
            · exact absurd (by rw [e]) z
            · omega) (by omega))
      rw [zero] at i
      exact i
end VK3
