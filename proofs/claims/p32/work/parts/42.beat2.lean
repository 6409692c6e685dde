/-! one ball of a beat, in the class's cells -/
def A_note (A : nD) (g : Nat) : nD :=
  if 60 ≤ A 26 1 then nup (nup (nup (nup (nup A 28 ((A 26 0 + A 26 1) % 60) (A 1 0)) 30 ((A 26 0 + A 26 1) % 60) g) 32 ((A 26 0 + A 26 1) % 60) (A 12 g)) 26 2 (A 26 2 + 1)) 26 0 ((A 26 0 + 1) % 60)
  else nup (nup (nup (nup (nup A 28 ((A 26 0 + A 26 1) % 60) (A 1 0)) 30 ((A 26 0 + A 26 1) % 60) g) 32 ((A 26 0 + A 26 1) % 60) (A 12 g)) 26 2 (A 26 2 + 1)) 26 1 (A 26 1 + 1)
def A_out (A : nD) (g : Nat) : nD := nup (nup A 18 (2 * g + A 10 g) (A 18 (2 * g + A 10 g) + 1)) 10 g (1 - A 10 g)
def A_adv (A : nD) (r w t : Nat) : nD := nup (nup (nup A 21 w t) 23 w (A 23 r)) 25 w (A 25 r + 1)
def A_fall (A : nD) (b : Nat) : nD := nup (nup A 5 b (A 5 b + 1)) 7 b (A 7 b + 1)
section BT2
variable {A : nD} {D : am_DD}
theorem m_note (h : rel A D) (hk : A 26 1 ≤ 60) (ho : A 26 0 < 60) {g : Nat} : ∃ D', fn_95 (Int32.ofNat (A 1 0)) (Int32.ofNat g) (Int32.ofNat (A 12 g)) D = some (0, D') ∧ rel (A_note A g) D' := by
  have hP : (A 26 0 + A 26 1) % 60 < 60 := Nat.mod_lt _ (by decide)
  have f0 := nt_16 h ho (show A 26 1 < 1000 by omega)
  have r3 := (((h.up 28 ((A 26 0 + A 26 1) % 60) (A 1 0) (by decide)).up 30 ((A 26 0 + A 26 1) % 60) g (by decide)).up 32 ((A 26 0 + A 26 1) % 60) (A 12 g) (by decide)).up 26 2 (A 26 2 + 1) (by decide)
  unfold A_note
  generalize hPP : (A 26 0 + A 26 1) % 60 = P at hP f0 r3
  unfold fn_95
  rw [h.a26 (k := 1) (by decide), f0]
  dsimp only
  rw [rw_put_nI hP (by decide), rw_put_nI hP (by decide), rw_put_nI hP (by decide)]
  have e2 : am_upd (am_upd (am_upd D 28 P (Int32.ofNat (A 1 0))) 30 P (Int32.ofNat g)) 32 P (Int32.ofNat (A 12 g)) 26 2 + 1 = Int32.ofNat (A 26 2 + 1) := by
    rw [u_row (show 26 ≠ 32 by decide), u_row (show 26 ≠ 30 by decide), u_row (show 26 ≠ 28 by decide), h.a26 (k := 2) (by decide), nI_up]
  rw [e2]
  generalize hD3 : am_upd (am_upd (am_upd (am_upd D 28 P (Int32.ofNat (A 1 0))) 30 P (Int32.ofNat g)) 32 P (Int32.ofNat (A 12 g))) 26 2 (Int32.ofNat (A 26 2 + 1)) = D3 at r3
  have e1 : D3 26 1 = Int32.ofNat (A 26 1) := by
    rw [r3.a26 (k := 1) (by decide), nu_ne (by omega), nu_row (show 26 ≠ 32 by decide), nu_row (show 26 ≠ 30 by decide), nu_row (show 26 ≠ 28 by decide)]
  rw [e1]
  by_cases c : 60 ≤ A 26 1
  · have q : (60 : Int32) ≤ Int32.ofNat (A 26 1) := ile (a := 60) (by omega) (by omega) c
    have o3 : nup (nup (nup (nup A 28 P (A 1 0)) 30 P g) 32 P (A 12 g)) 26 2 (A 26 2 + 1) 26 0 = A 26 0 := by
      rw [nu_ne (by omega), nu_row (show 26 ≠ 32 by decide), nu_row (show 26 ≠ 30 by decide), nu_row (show 26 ≠ 28 by decide)]
    have f1 := nt_16 r3 (by rw [o3]; exact ho) (show 1 < 1000 by decide)
    rw [o3] at f1
    have f1' : fn_16 1 D3 = some (Int32.ofNat ((A 26 0 + 1) % 60), D3) := f1
    rw [if_pos q, f1']
    dsimp only
    rw [if_pos c]
    exact ⟨_, rfl, r3.up 26 0 _ (by decide)⟩
  · have q : ¬ (60 : Int32) ≤ Int32.ofNat (A 26 1) := nle (a := 60) (by omega) (by omega) (by omega)
    rw [if_neg q, nI_up]
    rw [if_neg c]
    exact ⟨_, rfl, r3.up 26 1 _ (by decide)⟩
theorem m_out (h : rel A D) {g : Nat} (hg : g < 12) (hs : A 10 g ≤ 1) : ∃ D', fn_96 (Int32.ofNat g) D = some (Int32.ofNat (A 16 (2 * g + A 10 g)), D') ∧ rel (A_out A g) D' := by
  have e1 : (1 : Int32) - Int32.ofNat (A 10 g) = Int32.ofNat (1 - A 10 g) := n_sub (a := 1) hs (by omega)
  have r2 := (h.up 18 (2 * g + A 10 g) (A 18 (2 * g + A 10 g) + 1) (by decide)).up 10 g (1 - A 10 g) (by decide)
  refine ⟨_, ?_, r2⟩
  have f := q_tgt r2 (g := g) (e := A 10 g) hg (by omega)
  rw [nu_row (show 16 ≠ 10 by decide), nu_row (show 16 ≠ 18 by decide)] at f
  unfold fn_96
  rw [q_side h hg, gx, rw_raise_nI (by omega) (by decide), h.a18 (by omega), nI_up, e1, rw_put_nI hg (by decide), f]
theorem m_adv (h : rel A D) {r w t : Nat} (hr : r < 40) (hw : w < 40) : ∃ D', fn_97 (Int32.ofNat r) (Int32.ofNat w) (Int32.ofNat t) D = some (0, D') ∧ rel (A_adv A r w t) D' := by
  refine ⟨_, ?_, ((h.up 21 w t (by decide)).up 23 w (A 23 r) (by decide)).up 25 w (A 25 r + 1) (by decide)⟩
  have p21 : rw_put D 21 40 (Int32.ofNat w) (Int32.ofNat t) = am_upd D 21 w (Int32.ofNat t) := rw_put_nI hw (by decide)
  have p23 : ∀ v, rw_put (am_upd D 21 w (Int32.ofNat t)) 23 40 (Int32.ofNat w) v = am_upd (am_upd D 21 w (Int32.ofNat t)) 23 w v := fun v => rw_put_nI hw (by decide)
  unfold fn_97
  rw [p21, rw_at_nI hr (by decide), u_row (show 23 ≠ 21 by decide), h.a23 hr, p23, rw_at_nI hr (by decide), u_row (show 25 ≠ 23 by decide), u_row (show 25 ≠ 21 by decide), h.a25 hr, nI_up, rw_put_nI hw (by decide)]
theorem m_fall (h : rel A D) {b : Nat} (hb : b < 5) : rel (A_fall A b) (rw_raise (rw_raise D 5 5 (Int32.ofNat b) 1) 7 5 (Int32.ofNat b) 1) := by
  have r2 := (h.up 5 b (A 5 b + 1) (by decide)).up 7 b (A 7 b + 1) (by decide)
  rw [rw_raise_nI hb (by decide), rw_raise_nI hb (by decide), u_row (show 7 ≠ 5 by decide), h.a5 hb, h.a7 hb, nI_up, nI_up]
  exact r2
end BT2
/-! the numbers in the middle of a beat: the balls before w done, the next at r, n in all -/
def vA (A : nD) (w r n : Nat) : nD := fun a j => if (a = 21 ∨ a = 23 ∨ a = 25) ∧ w ≤ j then A a (j + (r - w)) else if a = 19 ∧ j = 0 then n - (r - w) else A a j
section VA
variable {A : nD} {w r n : Nat}
theorem vA_row {a : Nat} (h : a ≠ 19 ∧ a ≠ 21 ∧ a ≠ 23 ∧ a ≠ 25) : vA A w r n a = A a := by
  funext j
  unfold vA
  rw [if_neg (fun z => by have := z.1; omega), if_neg (fun z => by have := z.1; omega)]
theorem vA_lo {a j : Nat} (h : j < w) (ha : a ≠ 19) : vA A w r n a j = A a j := by
  unfold vA
  rw [if_neg (fun z => by have := z.2; omega), if_neg (fun z => ha z.1)]
theorem vA_hi {a j : Nat} (h : w ≤ j) (ha : a = 21 ∨ a = 23 ∨ a = 25) : vA A w r n a j = A a (j + (r - w)) := if_pos ⟨ha, h⟩
theorem vA_n : vA A w r n 19 0 = n - (r - w) := by
  unfold vA
  rw [if_neg (by omega), if_pos ⟨rfl, rfl⟩]
theorem A_note_row {g a : Nat} (h : a ≠ 26 ∧ a ≠ 28 ∧ a ≠ 30 ∧ a ≠ 32) : A_note A g a = A a := by
  obtain ⟨h1, h2, h3, h4⟩ := h
  unfold A_note
  split <;> rw [nu_row h1, nu_row h1, nu_row h4, nu_row h3, nu_row h2]
theorem A_note_28 {g k : Nat} : A_note A g 28 k = if k = (A 26 0 + A 26 1) % 60 then A 1 0 else A 28 k := by
  have e : A_note A g 28 k = nup A 28 ((A 26 0 + A 26 1) % 60) (A 1 0) 28 k := by
    unfold A_note
    split <;> rw [nu_row (show 28 ≠ 26 by decide), nu_row (show 28 ≠ 26 by decide), nu_row (show 28 ≠ 32 by decide), nu_row (show 28 ≠ 30 by decide)]
  rw [e]
  by_cases z : k = (A 26 0 + A 26 1) % 60
  · rw [if_pos z, z, nu_self]
  · rw [if_neg z, nu_ne (fun q => z q.2)]
theorem A_note_32 {g k : Nat} : A_note A g 32 k = if k = (A 26 0 + A 26 1) % 60 then A 12 g else A 32 k := by
  have e : A_note A g 32 k = nup A 32 ((A 26 0 + A 26 1) % 60) (A 12 g) 32 k := by
    have e2 : nup (nup (nup A 28 ((A 26 0 + A 26 1) % 60) (A 1 0)) 30 ((A 26 0 + A 26 1) % 60) g) 32 ((A 26 0 + A 26 1) % 60) (A 12 g) 32 k = nup A 32 ((A 26 0 + A 26 1) % 60) (A 12 g) 32 k := by
      by_cases z : k = (A 26 0 + A 26 1) % 60
      · rw [z, nu_self, nu_self]
      · rw [nu_ne (fun q => z q.2), nu_ne (fun q => z q.2), nu_ne (by omega), nu_ne (by omega)]
    unfold A_note
    split <;> rw [nu_row (show 32 ≠ 26 by decide), nu_row (show 32 ≠ 26 by decide), e2]
  rw [e]
  by_cases z : k = (A 26 0 + A 26 1) % 60
  · rw [if_pos z, z, nu_self]
  · rw [if_neg z, nu_ne (fun q => z q.2)]
theorem A_note_26 {g : Nat} (hk : A 26 1 ≤ 60) : A_note A g 26 2 = A 26 2 + 1 ∧ ((A 26 1 < 60 ∧ A_note A g 26 1 = A 26 1 + 1 ∧ A_note A g 26 0 = A 26 0) ∨ (A 26 1 = 60 ∧ A_note A g 26 1 = 60 ∧ A_note A g 26 0 = (A 26 0 + 1) % 60)) := by
  unfold A_note
  by_cases c : 60 ≤ A 26 1
  · rw [if_pos c]
    refine ⟨by rw [nu_ne (by omega), nu_self], Or.inr ⟨by omega, ?_, by rw [nu_self]⟩⟩
    rw [nu_ne (by omega), nu_ne (by omega), nu_ne (by omega), nu_ne (by omega), nu_ne (by omega)]
    omega
  · rw [if_neg c]
    refine ⟨by rw [nu_ne (by omega), nu_self], Or.inl ⟨by omega, by rw [nu_self], ?_⟩⟩
    rw [nu_ne (by omega), nu_ne (by omega), nu_ne (by omega), nu_ne (by omega), nu_ne (by omega)]
theorem A_out_row {g a : Nat} (h : a ≠ 10 ∧ a ≠ 18) : A_out A g a = A a := by
  unfold A_out
  rw [nu_row h.1, nu_row h.2]
theorem A_out_10 {g k : Nat} : A_out A g 10 k = if k = g then 1 - A 10 g else A 10 k := by
  unfold A_out
  by_cases z : k = g
  · rw [if_pos z, z, nu_self]
  · rw [if_neg z, nu_ne (fun q => z q.2), nu_ne (by omega)]
theorem A_out_18 {g k : Nat} : A_out A g 18 k = if k = 2 * g + A 10 g then A 18 k + 1 else A 18 k := by
  unfold A_out
  rw [nu_ne (by omega)]
  by_cases z : k = 2 * g + A 10 g
  · rw [if_pos z, z, nu_self]
  · rw [if_neg z, nu_ne (fun q => z q.2)]
/-- note and leaving, seen through the view: all of pss but the balls -/
theorem pss_of {w' g t : Nat} {A4 : nD} (hk : A 26 1 ≤ 60) (hw : w ≤ r) (hr : r < n) (hg : A 21 r = g) (ht : t = A 16 (2 * g + A 10 g)) (h4 : ∀ a, a ≠ 5 → a ≠ 7 → a ≠ 21 → a ≠ 23 → a ≠ 25 → a ≠ 19 → A4 a = A_out (A_note A g) g a)
    (hc : (t < 20 ∧ vA A4 w' (r + 1) n 19 0 = vA A w r n 19 0 ∧ vA A4 w' (r + 1) n 5 = vA A w r n 5 ∧ vA A4 w' (r + 1) n 7 = vA A w r n 7 ∧ (∀ j, vA A4 w' (r + 1) n 21 j = if j = w then t else vA A w r n 21 j) ∧ vA A4 w' (r + 1) n 23 = vA A w r n 23 ∧ ∀ j, vA A4 w' (r + 1) n 25 j = if j = w then vA A w r n 25 w + 1 else vA A w r n 25 j) ∨
      (20 ≤ t ∧ vA A4 w' (r + 1) n 19 0 = vA A w r n 19 0 - 1 ∧ (∀ k, vA A4 w' (r + 1) n 5 k = if k = t - 20 then vA A w r n 5 k + 1 else vA A w r n 5 k) ∧ (∀ k, vA A4 w' (r + 1) n 7 k = if k = t - 20 then vA A w r n 7 k + 1 else vA A w r n 7 k) ∧ ∀ a j, (a = 21 ∨ a = 23 ∨ a = 25) → vA A4 w' (r + 1) n a j = vA A w r n a (if j < w then j else j + 1))) : pss (vA A w r n) (vA A4 w' (r + 1) n) w g t := by
  have v : ∀ a, a ≠ 19 ∧ a ≠ 21 ∧ a ≠ 23 ∧ a ≠ 25 → a ≠ 5 → a ≠ 7 → vA A4 w' (r + 1) n a = A_out (A_note A g) g a := fun a h h5 h7 => by
    rw [vA_row h, h4 a h5 h7 h.2.1 h.2.2.1 h.2.2.2 h.1]
  have u : ∀ a, a ≠ 19 ∧ a ≠ 21 ∧ a ≠ 23 ∧ a ≠ 25 → vA A w r n a = A a := fun a h => vA_row h
  have o10 : A_note A g 10 = A 10 := A_note_row (by decide)
  have o18 : A_note A g 18 = A 18 := A_note_row (by decide)
  obtain ⟨n1, n2⟩ := A_note_26 (g := g) hk
  refine ⟨⟨?_, ?_, ?_⟩, ⟨?_, ?_, ?_, ?_, ?_, ?_⟩, ⟨fun k => ?_, fun k => ?_⟩, ⟨?_, ?_, fun k => ?_, fun k => ?_⟩, hc⟩
  · rw [vA_n]; omega
  · rw [vA_hi (Nat.le_refl _) (by omega), show w + (r - w) = r by omega]; exact hg
  · rw [u 16 (by decide), u 10 (by decide)]; exact ht
  · rw [v 1 (by decide) (by decide) (by decide), u 1 (by decide), A_out_row (by decide), A_note_row (by decide)]
  · rw [v 3 (by decide) (by decide) (by decide), u 3 (by decide), A_out_row (by decide), A_note_row (by decide)]
  · rw [v 8 (by decide) (by decide) (by decide), u 8 (by decide), A_out_row (by decide), A_note_row (by decide)]
  · rw [v 12 (by decide) (by decide) (by decide), u 12 (by decide), A_out_row (by decide), A_note_row (by decide)]
  · rw [v 14 (by decide) (by decide) (by decide), u 14 (by decide), A_out_row (by decide), A_note_row (by decide)]
  · rw [v 16 (by decide) (by decide) (by decide), u 16 (by decide), A_out_row (by decide), A_note_row (by decide)]
  · rw [v 10 (by decide) (by decide) (by decide), u 10 (by decide), A_out_10, o10]
  · rw [v 18 (by decide) (by decide) (by decide), u 18 (by decide), u 10 (by decide), A_out_18, o10, o18]
  · rw [v 26 (by decide) (by decide) (by decide), u 26 (by decide), A_out_row (by decide)]; exact n1
  · rw [v 26 (by decide) (by decide) (by decide), u 26 (by decide), A_out_row (by decide)]; exact n2
  · rw [v 28 (by decide) (by decide) (by decide), u 26 (by decide), u 28 (by decide), u 1 (by decide), A_out_row (by decide)]; exact A_note_28
  · rw [v 32 (by decide) (by decide) (by decide), u 26 (by decide), u 32 (by decide), u 12 (by decide), A_out_row (by decide)]; exact A_note_32
end VA
set_option maxHeartbeats 1000000 in
/-- one ball of the loop -/
theorem ball1 {A : nD} {D : am_DD} {w r n : Nat} (h : rel A D) (hi : inv (vA A w r n)) (hw : w ≤ r) (hr : r < n) (hn : n ≤ 40) : ∃ w' g t A' D', w' ≤ r + 1 ∧ (∀ N, fn_98_12 (N + 1) (Int32.ofNat n) (Int32.ofNat w) (Int32.ofNat r) D = fn_98_12 N (Int32.ofNat n) (Int32.ofNat w') (Int32.ofNat (r + 1)) D') ∧ rel A' D' ∧ pss (vA A w r n) (vA A' w' (r + 1) n) w g t := by
  have hk : A 26 1 ≤ 60 := by
    have := im_kp hi.2.2.1
    rw [vA_row (by decide)] at this
    exact this
  have ho : A 26 0 < 60 := by
    have := hi.2.2.1.2.2.1
    rw [vA_row (by decide)] at this
    exact this
  have hm : A 8 0 ≤ 12 := by
    have := hi.1.1
    rw [vA_row (by decide)] at this
    exact this
  have hpl : A 21 r < A 8 0 := by
    have := (hi.2.1.2.2.1 w (by rw [vA_n]; omega)).1
    rw [vA_hi (Nat.le_refl _) (by omega), show w + (r - w) = r by omega, vA_row (by decide)] at this
    exact this
  generalize hg : A 21 r = g at hpl
  have hs : A 10 g ≤ 1 := by
    have := (hi.1.2.1 g (by rw [vA_row (by decide)]; exact hpl)).2.1
    rw [vA_row (by decide)] at this
    exact this
  have ht : g < A 16 (2 * g + A 10 g) ∧ (A 16 (2 * g + A 10 g) < A 8 0 ∨ (20 ≤ A 16 (2 * g + A 10 g) ∧ A 16 (2 * g + A 10 g) < 25)) := by
    have := hi.1.2.2.1 g (A 10 g) (by rw [vA_row (by decide)]; exact hpl) (by omega)
    rw [vA_row (by decide), vA_row (by decide)] at this
    exact this
  obtain ⟨D1, d1, r1⟩ := m_note h hk ho (g := g)
  have o10 : A_note A g 10 = A 10 := A_note_row (by decide)
  have o16 : A_note A g 16 = A 16 := A_note_row (by decide)
  obtain ⟨D2, d2, r2⟩ := m_out r1 (g := g) (by omega) (by rw [o10]; exact hs)
  rw [o10, o16] at d2
  generalize htt : A 16 (2 * g + A 10 g) = t at d2 ht
  have run : ∀ N, fn_98_12 (N + 1) (Int32.ofNat n) (Int32.ofNat w) (Int32.ofNat r) D = (if (20 : Int32) ≤ Int32.ofNat t then fn_98_12 N (Int32.ofNat n) (Int32.ofNat w) (Int32.ofNat r + 1) (rw_raise (rw_raise D2 5 5 (Int32.ofNat t - 20) 1) 7 5 (Int32.ofNat t - 20) 1) else (match fn_97 (Int32.ofNat r) (Int32.ofNat w) (Int32.ofNat t) D2 with | none => none | some (_, D10) => fn_98_12 N (Int32.ofNat n) (Int32.ofNat w + 1) (Int32.ofNat r + 1) D10)) := fun N => by
    rw [fn_98_12, if_neg (nle (by omega) (by omega) hr), rw_at_nI (by omega) (by decide), h.a21 (by omega), hg, rw_at_nI (by omega) (by decide), h.a12 (by omega), h.a1 (by decide), d1]
    dsimp only
    rw [d2]
    rfl
  by_cases c : t < 20
  · obtain ⟨D3, d3, r3⟩ := m_adv r2 (r := r) (w := w) (t := t) (by omega) (by omega)
    refine ⟨w + 1, g, t, _, D3, by omega, fun N => ?_, r3, pss_of hk hw hr hg htt.symm (fun a h5 h7 h21 h23 h25 h19 => ?_) (Or.inl ⟨c, ?_, ?_, ?_, fun j => ?_, ?_, fun j => ?_⟩)⟩
    · have q20 : ¬ (20 : Int32) ≤ Int32.ofNat t := nle (a := 20) (by omega) (by omega) c
      rw [run, if_neg q20, d3]
      dsimp only
      rw [nI_up, nI_up]
    · unfold A_adv
      rw [nu_row h25, nu_row h23, nu_row h21]
    · rw [vA_n, vA_n]; omega
    · rw [vA_row (by decide), vA_row (by decide)]
      unfold A_adv
      rw [nu_row (by decide), nu_row (by decide), nu_row (by decide), A_out_row (by decide), A_note_row (by decide)]
    · rw [vA_row (by decide), vA_row (by decide)]
      unfold A_adv
      rw [nu_row (by decide), nu_row (by decide), nu_row (by decide), A_out_row (by decide), A_note_row (by decide)]
    · have e21 : A_out (A_note A g) g 21 = A 21 := by rw [A_out_row (by decide), A_note_row (by decide)]
      by_cases z : j < w + 1
      · rw [vA_lo z (by decide)]
        unfold A_adv
        rw [nu_ne (by omega), nu_ne (by omega)]
        by_cases y : j = w
        · rw [if_pos y, y, nu_self]
        · rw [if_neg y, nu_ne (fun q => y q.2), e21, vA_lo (by omega) (by decide)]
      · rw [vA_hi (by omega) (by omega), if_neg (by omega), vA_hi (by omega) (by omega), show r + 1 - (w + 1) = r - w by omega]
        unfold A_adv
        rw [nu_ne (by omega), nu_ne (by omega), nu_ne (by omega), e21]
    · funext j
      have e23 : A_out (A_note A g) g 23 = A 23 := by rw [A_out_row (by decide), A_note_row (by decide)]
      by_cases z : j < w + 1
      · rw [vA_lo z (by decide)]
        unfold A_adv
        rw [nu_ne (by omega)]
        by_cases y : j = w
        · rw [y, nu_self, e23, vA_hi (Nat.le_refl _) (by omega), show w + (r - w) = r by omega]
        · rw [nu_ne (fun q => y q.2), nu_ne (by omega), e23, vA_lo (by omega) (by decide)]
      · rw [vA_hi (by omega) (by omega), vA_hi (by omega) (by omega), show r + 1 - (w + 1) = r - w by omega]
        unfold A_adv
        rw [nu_ne (by omega), nu_ne (by omega), nu_ne (by omega), e23]
    · have e25 : A_out (A_note A g) g 25 = A 25 := by rw [A_out_row (by decide), A_note_row (by decide)]
      by_cases z : j < w + 1
      · rw [vA_lo z (by decide)]
        unfold A_adv
        by_cases y : j = w
        · rw [if_pos y, y, nu_self, e25, vA_hi (Nat.le_refl _) (by omega), show w + (r - w) = r by omega]
        · rw [if_neg y, nu_ne (fun q => y q.2), nu_ne (by omega), nu_ne (by omega), e25, vA_lo (by omega) (by decide)]
      · rw [vA_hi (by omega) (by omega), if_neg (by omega), vA_hi (by omega) (by omega), show r + 1 - (w + 1) = r - w by omega]
        unfold A_adv
        rw [nu_ne (by omega), nu_ne (by omega), nu_ne (by omega), e25]
  · have hb : t - 20 < 5 := by omega
    have e20 : Int32.ofNat t - 20 = Int32.ofNat (t - 20) := n_sub (b := 20) (by omega) (by omega)
    have r3 := m_fall r2 hb
    refine ⟨w, g, t, _, _, by omega, fun N => ?_, r3, pss_of hk hw hr hg htt.symm (fun a h5 h7 h21 h23 h25 h19 => ?_) (Or.inr ⟨by omega, ?_, fun k => ?_, fun k => ?_, fun a j ha => ?_⟩)⟩
    · have q20 : (20 : Int32) ≤ Int32.ofNat t := ile (a := 20) (by omega) (by omega) (by omega)
      rw [run, if_pos q20, e20, nI_up]
    · unfold A_fall
      rw [nu_row h7, nu_row h5]
    · rw [vA_n, vA_n]; omega
    · have e5 : A_out (A_note A g) g 5 = A 5 := by rw [A_out_row (by decide), A_note_row (by decide)]
      rw [vA_row (by decide), vA_row (by decide)]
      unfold A_fall
      rw [nu_ne (by omega)]
      by_cases z : k = t - 20
      · rw [if_pos z, z, nu_self, e5]
      · rw [if_neg z, nu_ne (fun q => z q.2), e5]
    · have e7 : A_out (A_note A g) g 7 = A 7 := by rw [A_out_row (by decide), A_note_row (by decide)]
      rw [vA_row (by decide), vA_row (by decide)]
      unfold A_fall
      by_cases z : k = t - 20
      · rw [if_pos z, z, nu_self, e7]
      · rw [if_neg z, nu_ne (fun q => z q.2), nu_ne (by omega), e7]
    · have er : A_fall (A_out (A_note A g) g) (t - 20) a = A a := by
        unfold A_fall
        rcases ha with rfl | rfl | rfl
        · rw [nu_row (by decide), nu_row (by decide), A_out_row (by decide), A_note_row (by decide)]
        · rw [nu_row (by decide), nu_row (by decide), A_out_row (by decide), A_note_row (by decide)]
        · rw [nu_row (by decide), nu_row (by decide), A_out_row (by decide), A_note_row (by decide)]
      by_cases z : j < w
      · rw [if_pos z, vA_lo z (by omega), vA_lo z (by omega), er]
      · rw [if_neg z, vA_hi (by omega) ha, vA_hi (by omega) ha, er, show j + (r + 1 - w) = j + 1 + (r - w) by omega]
