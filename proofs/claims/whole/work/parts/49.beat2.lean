/-! the class in the middle of its balls: the ones before w done, w to come at r, n in all -/
def vE (D : am_DD) (w r n : Nat) : Nat → Nat → Int32 := fun o j => if (o = 20 ∨ o = 22 ∨ o = 24) ∧ w ≤ j then D (1 + o) (j + (r - w)) else if o = 18 ∧ j = 0 then Int32.ofNat (n - (r - w)) else D (1 + o) j
theorem vE_ne {D : am_DD} {w r n o j : Nat} (h : ¬ (o = 20 ∨ o = 22 ∨ o = 24)) (h2 : o ≠ 18) : vE D w r n o j = D (1 + o) j := by
  unfold vE
  rw [if_neg (fun z => h z.1), if_neg (fun z => h2 z.1)]
theorem vE_lo {D : am_DD} {w r n o j : Nat} (h : j < w) (h2 : o ≠ 18) : vE D w r n o j = D (1 + o) j := by
  unfold vE
  rw [if_neg (fun z => by have := z.2; omega), if_neg (fun z => h2 z.1)]
theorem vE_hi {D : am_DD} {w r n o j : Nat} (h : o = 20 ∨ o = 22 ∨ o = 24) (h2 : w ≤ j) : vE D w r n o j = D (1 + o) (j + (r - w)) := if_pos ⟨h, h2⟩
theorem vE_n {D : am_DD} {w r n : Nat} : vE D w r n 18 0 = Int32.ofNat (n - (r - w)) := by
  unfold vE
  rw [if_neg (by omega), if_pos ⟨rfl, rfl⟩]
/-- the rows but those of the balls -/
theorem vE_up {D : am_DD} {w r n r' ro c : Nat} {v : Int32} (h : r' = 1 + ro) (h2 : ¬ (ro = 18 ∨ ro = 20 ∨ ro = 22 ∨ ro = 24)) : vE (am_upd D r' c v) w r n = am_upd (vE D w r n) ro c v := by
  subst h
  funext o j
  by_cases z : o = ro ∧ j = c
  · rw [z.1, z.2, u_self, vE_ne (by omega) (by omega), u_self]
  · rw [u_ne z]
    unfold vE
    by_cases z1 : (o = 20 ∨ o = 22 ∨ o = 24) ∧ w ≤ j
    · rw [if_pos z1, if_pos z1, u_ne (by omega)]
    · rw [if_neg z1, if_neg z1]
      by_cases z2 : o = 18 ∧ j = 0
      · rw [if_pos z2, if_pos z2]
      · rw [if_neg z2, if_neg z2, u_ne (fun q => z ⟨by omega, q.2⟩)]
/-- the reference's note -/
theorem fn_83_lp {a : Int32} (D0 : am_DD) : ∀ (c x N : Nat) (D : am_DD), x + c = 402 → c < N → 225 ≤ x → (∀ j, D 322 j = if 225 ≤ j ∧ j < x then D0 322 (j + 3) else D0 322 j) → (∀ a, a ≠ 322 → D a = D0 a) → ∃ D', fn_83_16 N a (Int32.ofNat x) D = fn_83_16 (N - c) a (Int32.ofNat 402) D' ∧ (∀ j, D' 322 j = if 225 ≤ j ∧ j < 402 then D0 322 (j + 3) else D0 322 j) ∧ ∀ a, a ≠ 322 → D' a = D0 a := by
  intro c
  induction c with
  | zero =>
    intro x N D hx hN h225 hD hA
    have : x = 402 := by omega
    subst this
    exact ⟨D, rfl, hD, hA⟩
  | succ c ih =>
    intro x N D hx hN h225 hD hA
    obtain ⟨N, rfl⟩ : ∃ n', N = n' + 1 := ⟨N - 1, by omega⟩
    have e3 : Int32.ofNat x + 3 = Int32.ofNat (x + 3) := n_add x 3
    have h4 : ¬ (402 : Int32) ≤ Int32.ofNat x := n_nle (a := 402) (by omega) (by omega) (by omega)
    obtain ⟨D', i1, i2, i3⟩ := ih (x + 1) N (am_upd D 322 x (D 322 (x + 3))) (by omega) (by omega) (by omega) (fun j => by
      by_cases z : j = x
      · rw [z, u_self, hD, if_neg (by omega), if_pos (by omega)]
      · rw [u_ne (fun q => z q.2), hD]
        by_cases z2 : 225 ≤ j ∧ j < x
        · rw [if_pos z2, if_pos (by omega)]
        · rw [if_neg z2, if_neg (by omega)]) (fun a ha => by rw [u_row ha, hA a ha])
    refine ⟨D', ?_, i2, i3⟩
    rw [fn_83_16, if_neg h4, e3, if_neg (n_bad (by decide) (by omega)), if_neg (n_bad (by decide) (by omega)), c_ofNat (by omega), c_ofNat (by omega), nI_up, show N + 1 - (c + 1) = N - c by omega]
    exact i1
theorem nx0 {r : Nat} : ((225 : Int32) + (3 * Int32.ofNat r)) + 0 = Int32.ofNat (225 + 3 * r + 0) := nx (w := 0)
theorem nx1 {r : Nat} : ((225 : Int32) + (3 * Int32.ofNat r)) + 1 = Int32.ofNat (225 + 3 * r + 1) := nx (w := 1)
theorem nx2 {r : Nat} : ((225 : Int32) + (3 * Int32.ofNat r)) + 2 = Int32.ofNat (225 + 3 * r + 2) := nx (w := 2)
theorem fn_83_n {D : am_DD} {g kp nk off : Nat} (hg : g < 12) (hk : D 322 10 = Int32.ofNat kp) (hcase : (kp < 60 ∧ nk = kp + 1 ∧ off = 0) ∨ (kp = 60 ∧ nk = 60 ∧ off = 1)) :
    ∃ D', fn_83 (Int32.ofNat g) D = some (0, D') ∧ (∀ a, a ≠ 322 → D' a = D a) ∧ (∀ j, j < 225 → j ≠ 9 → j ≠ 10 → D' 322 j = D 322 j) ∧ D' 322 10 = Int32.ofNat nk ∧ (∀ q w, q + 1 < nk → w < 3 → D' 322 (225 + 3 * q + w) = D 322 (225 + 3 * (q + off) + w)) ∧
      D' 322 (225 + 3 * (nk - 1) + 0) = D 322 0 ∧ D' 322 (225 + 3 * (nk - 1) + 1) = Int32.ofNat g ∧ D' 322 (225 + 3 * (nk - 1) + 2) = D 322 (12 + 7 * g) ∧ D' 322 9 = D 322 9 + 1 := by
  have f48 : ∀ D : am_DD, fn_48 (Int32.ofNat g) 1 D = some (D 322 (12 + 7 * g), D) := fun D => by
    have f : fn_48 (Int32.ofNat g) 1 D = _ := fn_48_n (g := g) (w := 1) (D := D) (by omega)
    rw [f, show 11 + 7 * g + 1 = 12 + 7 * g by omega]
  rcases hcase with ⟨h1, rfl, rfl⟩ | ⟨rfl, rfl, rfl⟩
  · have n60 : ¬ Int32.ofNat kp = 60 := fun z => by have := n_inj (b := 60) (by omega) (by omega) z; omega
    unfold fn_83
    rw [hk, if_pos n60, nx0, nx1, nx2, if_neg (n_bad (by decide) (by omega)), if_neg (n_bad (by decide) (by omega)), f48, c_ofNat (by omega), c_ofNat (by omega)]
    dsimp only
    rw [if_neg (n_bad (by decide) (by omega)), c_ofNat (by omega)]
    refine ⟨_, rfl, fun a ha => ?_, fun j j1 j2 j3 => ?_, ?_, fun q w hq hw => ?_, ?_, ?_, ?_, ?_⟩
    · rw [u_row ha, u_row ha, u_row ha, u_row ha, u_row ha]
    · rw [u_ne (by omega), u_ne (by omega), u_ne (by omega), u_ne (by omega), u_ne (by omega)]
    · rw [u_ne (by omega), u_self, u_ne (by omega), u_ne (by omega), u_ne (by omega), hk, nI_up]
    · rw [u_ne (by omega), u_ne (by omega), u_ne (by omega), u_ne (by omega), u_ne (by omega), Nat.add_zero]
    · rw [Nat.add_sub_cancel, u_ne (by omega), u_ne (by omega), u_ne (by omega), u_ne (by omega), u_self]
    · rw [Nat.add_sub_cancel, u_ne (by omega), u_ne (by omega), u_ne (by omega), u_self]
    · rw [Nat.add_sub_cancel, u_ne (by omega), u_ne (by omega), u_self, u_ne (by omega), u_ne (by omega)]
    · rw [u_self, u_ne (by omega), u_ne (by omega), u_ne (by omega), u_ne (by omega)]
  · have n60 : Int32.ofNat 60 = 60 := rfl
    obtain ⟨D', i1, i2, i3⟩ := fn_83_lp (a := Int32.ofNat g) D 177 225 100000 D (by omega) (by omega) (by omega) (fun j => by rw [if_neg (by omega)]) (fun _ _ => rfl)
    have h10 : D' 322 10 = Int32.ofNat 60 := by rw [i2, if_neg (by omega), hk]
    unfold fn_83 am_F
    have i1' : fn_83_16 100000 (Int32.ofNat g) 225 D = fn_83_16 (99822 + 1) (Int32.ofNat g) (Int32.ofNat 402) D' := i1
    rw [hk, if_neg (not_not_intro n60), i1', fn_83_16, if_pos (by decide)]
    have e59 : Int32.ofNat 60 - 1 = Int32.ofNat 59 := by decide
    rw [u_self, h10, e59, nx0, nx1, nx2, if_neg (n_bad (by decide) (by omega)), if_neg (n_bad (by decide) (by omega)), f48, c_ofNat (by omega), c_ofNat (by omega)]
    dsimp only
    rw [if_neg (n_bad (by decide) (by omega)), c_ofNat (by omega)]
    refine ⟨_, rfl, fun a ha => ?_, fun j j1 j2 j3 => ?_, ?_, fun q w hq hw => ?_, ?_, ?_, ?_, ?_⟩
    · rw [u_row ha, u_row ha, u_row ha, u_row ha, u_row ha, u_row ha, i3 a ha]
    · rw [u_ne (by omega), u_ne (by omega), u_ne (by omega), u_ne (by omega), u_ne (by omega), u_ne (by omega), i2, if_neg (by omega)]
    · rw [u_ne (by omega), u_self, u_ne (by omega), u_ne (by omega), u_ne (by omega), u_self]
      decide
    · rw [u_ne (by omega), u_ne (by omega), u_ne (by omega), u_ne (by omega), u_ne (by omega), u_ne (by omega), i2, if_pos (by omega), show 225 + 3 * q + w + 3 = 225 + 3 * (q + 1) + w by omega]
    · rw [u_ne (by omega), u_ne (by omega), u_ne (by omega), u_ne (by omega), u_self, u_ne (by omega), i2, if_neg (by omega)]
    · rw [u_ne (by omega), u_ne (by omega), u_ne (by omega), u_self]
    · rw [u_ne (by omega), u_ne (by omega), u_self, u_ne (by omega), u_ne (by omega), u_ne (by omega), i2, if_neg (by omega)]
    · rw [u_self, u_ne (by omega), u_ne (by omega), u_ne (by omega), u_ne (by omega), u_ne (by omega), i2, if_neg (by omega)]
/-- the class's note -/
theorem fn_72_n {D : am_DD} {kp o nk off : Nat} {b g p : Int32} (hk : D 26 1 = Int32.ofNat kp) (ho : D 26 0 = Int32.ofNat o) (ho2 : o < 60) (hcase : (kp < 60 ∧ nk = kp + 1 ∧ off = 0) ∨ (kp = 60 ∧ nk = 60 ∧ off = 1)) :
    ∃ D', fn_72 b g p D = some (0, D') ∧ (∀ a, a ≠ 26 → a ≠ 28 → a ≠ 30 → a ≠ 32 → D' a = D a) ∧ D' 26 0 = Int32.ofNat ((o + off) % 60) ∧ D' 26 1 = Int32.ofNat nk ∧ D' 26 2 = D 26 2 + 1 ∧ (∀ w j, w < 3 → j ≠ (o + kp) % 60 → D' (28 + 2 * w) j = D (28 + 2 * w) j) ∧ D' 28 ((o + kp) % 60) = b ∧ D' 30 ((o + kp) % 60) = g ∧ D' 32 ((o + kp) % 60) = p := by
  have hP : (o + kp) % 60 < 60 := Nat.mod_lt _ (by decide)
  have f71 : ∀ (D : am_DD) (x : Nat), x ≤ 60 → D 26 0 = Int32.ofNat o → fn_71 (Int32.ofNat x) D = some (Int32.ofNat ((o + x) % 60), D) := fun D x hx h => by
    unfold fn_71
    rw [h, n_add]
    have := n_mod (a := o + x) (b := 60) (by omega) (by omega) (by omega)
    rw [← this]
    rfl
  unfold fn_72
  rw [hk, f71 D kp (by omega) ho]
  dsimp only
  rw [rw_put_nI hP (by decide), rw_put_nI hP (by decide), rw_put_nI hP (by decide)]
  have eD : am_upd (am_upd (am_upd (am_upd D 28 ((o + kp) % 60) b) 30 ((o + kp) % 60) g) 32 ((o + kp) % 60) p) 26 2 (am_upd (am_upd (am_upd D 28 ((o + kp) % 60) b) 30 ((o + kp) % 60) g) 32 ((o + kp) % 60) p 26 2 + 1) 26 1 = Int32.ofNat kp := by
    rw [u_ne (by omega), u_ne (by omega), u_ne (by omega), u_ne (by omega), hk]
  rw [eD]
  generalize hPP : (o + kp) % 60 = P at hP
  rcases hcase with ⟨h1, rfl, rfl⟩ | ⟨rfl, rfl, rfl⟩
  · have n60 : ¬ (60 : Int32) ≤ Int32.ofNat kp := n_nle (a := 60) (by omega) (by omega) (by omega)
    rw [if_neg n60, nI_up]
    refine ⟨_, rfl, fun a a1 a2 a3 a4 => ?_, ?_, ?_, ?_, fun w j hw hj => ?_, ?_, ?_, ?_⟩
    · rw [u_row (by omega), u_row (by omega), u_row (by omega), u_row (by omega), u_row (by omega)]
    · rw [u_ne (by omega), u_ne (by omega), u_ne (by omega), u_ne (by omega), u_ne (by omega), ho, Nat.add_zero, Nat.mod_eq_of_lt ho2]
    · rw [u_self]
    · rw [u_ne (by omega), u_self, u_ne (by omega), u_ne (by omega), u_ne (by omega)]
    · rw [u_ne (by omega), u_ne (by omega), u_ne (by omega), u_ne (by omega), u_ne (by omega)]
    · rw [u_ne (by omega), u_ne (by omega), u_ne (by omega), u_ne (by omega), u_self]
    · rw [u_ne (by omega), u_ne (by omega), u_ne (by omega), u_self]
    · rw [u_ne (by omega), u_ne (by omega), u_self]
  · have n60 : (60 : Int32) ≤ Int32.ofNat 60 := by decide
    have f1 := f71 (am_upd (am_upd (am_upd (am_upd D 28 P b) 30 P g) 32 P p) 26 2 (am_upd (am_upd (am_upd D 28 P b) 30 P g) 32 P p 26 2 + 1)) 1 (by omega) (by rw [u_ne (by omega), u_ne (by omega), u_ne (by omega), u_ne (by omega), ho])
    have e1 : Int32.ofNat 1 = 1 := rfl
    rw [e1] at f1
    rw [if_pos n60, f1]
    dsimp only
    refine ⟨_, rfl, fun a a1 a2 a3 a4 => ?_, ?_, ?_, ?_, fun w j hw hj => ?_, ?_, ?_, ?_⟩
    · rw [u_row (by omega), u_row (by omega), u_row (by omega), u_row (by omega), u_row (by omega)]
    · rw [u_self]
    · rw [u_ne (by omega), u_ne (by omega), u_ne (by omega), u_ne (by omega), u_ne (by omega), hk]
    · rw [u_ne (by omega), u_self, u_ne (by omega), u_ne (by omega), u_ne (by omega)]
    · rw [u_ne (by omega), u_ne (by omega), u_ne (by omega), u_ne (by omega), u_ne (by omega)]
    · rw [u_ne (by omega), u_ne (by omega), u_ne (by omega), u_ne (by omega), u_self]
    · rw [u_ne (by omega), u_ne (by omega), u_ne (by omega), u_self]
    · rw [u_ne (by omega), u_ne (by omega), u_self]
