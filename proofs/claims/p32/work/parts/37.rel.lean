/-! the class's state as naturals: A a k is the number in the cell k of the thing a -/
abbrev nD : Type := Nat → Nat → Nat
def nup (A : nD) (a k v : Nat) : nD := fun a' k' => if a' = a then (if k' = k then v else A a' k') else A a' k'
theorem nu_self (A : nD) (a k v : Nat) : nup A a k v a k = v := by simp [nup]
theorem nu_ne {A : nD} {a k a' k' v : Nat} (h : ¬ (a' = a ∧ k' = k)) : nup A a k v a' k' = A a' k' := by
  unfold nup
  by_cases h1 : a' = a
  · rw [if_pos h1]
    by_cases h2 : k' = k
    · exact absurd ⟨h1, h2⟩ h
    · rw [if_neg h2]
  · rw [if_neg h1]
theorem nu_row {A : nD} {a k a' v : Nat} (h : a' ≠ a) : nup A a k v a' = A a' := by
  funext j
  exact nu_ne (fun z => h z.1)
def lay : List (Nat × Nat) := [(1, 5), (3, 2), (5, 5), (7, 5), (8, 1), (10, 12), (12, 12), (14, 12), (16, 24), (18, 24), (19, 1), (21, 40), (23, 40), (25, 40), (26, 3), (28, 60), (30, 60), (32, 60)]
def live (a k : Nat) : Bool := lay.any (fun e => decide (a = e.1) && decide (k < e.2))
/-- what is saved: where the oldest lies, how many -/
def hs (D : am_DD) : Prop := ∃ o c : Nat, D 56 1 = Int32.ofNat o ∧ o < 6 ∧ D 56 2 = Int32.ofNat c ∧ c ≤ 6
def rel (A : nD) (D : am_DD) : Prop := (∀ a k, live a k = true → D a k = Int32.ofNat (A a k)) ∧ hs D
theorem live_of {a n k : Nat} (h : (a, n) ∈ lay) (hk : k < n) : live a k = true := List.any_eq_true.mpr ⟨(a, n), h, by simp [hk]⟩
theorem live_lt {a k : Nat} (h : live a k = true) : a < 33 := by
  obtain ⟨e, he, h2⟩ := List.any_eq_true.mp h
  simp only [Bool.and_eq_true, decide_eq_true_eq] at h2
  have h3 : ∀ e ∈ lay, e.1 < 33 := by decide +kernel
  rw [h2.1]
  exact h3 e he
section REL
variable {A A' : nD} {D D' : am_DD} {a n k v : Nat}
theorem rel.at (h : rel A D) (hm : (a, n) ∈ lay) (hk : k < n) : D a k = Int32.ofNat (A a k) := h.1 a k (live_of hm hk)
theorem hs.cg (h : hs D) (hD : D' 56 = D 56) : hs D' := by
  unfold hs at h ⊢
  rw [hD]
  exact h
theorem rel.up (h : rel A D) (a k v : Nat) (ha : a ≠ 56) : rel (nup A a k v) (am_upd D a k (Int32.ofNat v)) := ⟨fun a' k' hl => by
  by_cases z : a' = a ∧ k' = k
  · obtain ⟨rfl, rfl⟩ := z
    rw [u_self, nu_self]
  · rw [u_ne z, nu_ne z]
    exact h.1 a' k' hl, h.2.cg (u_row (fun z => ha z.symm))⟩
theorem rel.cg (h : rel A D) (hD : ∀ a k, live a k = true → D' a k = D a k) (h56 : D' 56 = D 56) : rel A D' := ⟨fun a k hl => (hD a k hl).trans (h.1 a k hl), h.2.cg h56⟩
theorem rel.row (h : rel A D) (hD : ∀ a, (a < 33 ∨ a = 56) → D' a = D a) : rel A D' := h.cg (fun a k hl => by rw [hD a (Or.inl (live_lt hl))]) (hD 56 (Or.inr rfl))
theorem rel.nat (h : rel A D) (hA : ∀ a k, live a k = true → A' a k = A a k) : rel A' D := ⟨fun a k hl => by rw [hA a k hl]; exact h.1 a k hl, h.2⟩
theorem rel.a1 (h : rel A D) (hk : k < 5) : D 1 k = Int32.ofNat (A 1 k) := h.at (n := 5) (by decide) hk
theorem rel.a3 (h : rel A D) (hk : k < 2) : D 3 k = Int32.ofNat (A 3 k) := h.at (n := 2) (by decide) hk
theorem rel.a5 (h : rel A D) (hk : k < 5) : D 5 k = Int32.ofNat (A 5 k) := h.at (n := 5) (by decide) hk
theorem rel.a7 (h : rel A D) (hk : k < 5) : D 7 k = Int32.ofNat (A 7 k) := h.at (n := 5) (by decide) hk
theorem rel.a8 (h : rel A D) : D 8 0 = Int32.ofNat (A 8 0) := h.at (n := 1) (by decide) (by decide)
theorem rel.a10 (h : rel A D) (hk : k < 12) : D 10 k = Int32.ofNat (A 10 k) := h.at (n := 12) (by decide) hk
theorem rel.a12 (h : rel A D) (hk : k < 12) : D 12 k = Int32.ofNat (A 12 k) := h.at (n := 12) (by decide) hk
theorem rel.a14 (h : rel A D) (hk : k < 12) : D 14 k = Int32.ofNat (A 14 k) := h.at (n := 12) (by decide) hk
theorem rel.a16 (h : rel A D) (hk : k < 24) : D 16 k = Int32.ofNat (A 16 k) := h.at (n := 24) (by decide) hk
theorem rel.a18 (h : rel A D) (hk : k < 24) : D 18 k = Int32.ofNat (A 18 k) := h.at (n := 24) (by decide) hk
theorem rel.a19 (h : rel A D) : D 19 0 = Int32.ofNat (A 19 0) := h.at (n := 1) (by decide) (by decide)
theorem rel.a21 (h : rel A D) (hk : k < 40) : D 21 k = Int32.ofNat (A 21 k) := h.at (n := 40) (by decide) hk
theorem rel.a23 (h : rel A D) (hk : k < 40) : D 23 k = Int32.ofNat (A 23 k) := h.at (n := 40) (by decide) hk
theorem rel.a25 (h : rel A D) (hk : k < 40) : D 25 k = Int32.ofNat (A 25 k) := h.at (n := 40) (by decide) hk
theorem rel.a26 (h : rel A D) (hk : k < 3) : D 26 k = Int32.ofNat (A 26 k) := h.at (n := 3) (by decide) hk
theorem rel.a28 (h : rel A D) (hk : k < 60) : D 28 k = Int32.ofNat (A 28 k) := h.at (n := 60) (by decide) hk
theorem rel.a30 (h : rel A D) (hk : k < 60) : D 30 k = Int32.ofNat (A 30 k) := h.at (n := 60) (by decide) hk
theorem rel.a32 (h : rel A D) (hk : k < 60) : D 32 k = Int32.ofNat (A 32 k) := h.at (n := 60) (by decide) hk
end REL
/-! sums, counts -/
def sm (f : Nat → Nat) : Nat → Nat
  | 0 => 0
  | n + 1 => sm f n + f n
def cn (f : Nat → Nat) (t : Nat) : Nat → Nat
  | 0 => 0
  | n + 1 => cn f t n + (if f n = t then 1 else 0)
/-- balls that left the gate g -/
def lvs (A : nD) (g : Nat) : Nat := A 18 (2 * g) + A 18 (2 * g + 1)
def nb (A : nD) (q : Nat) : Nat := A 28 ((A 26 0 + q) % 60)
def np (A : nD) (q : Nat) : Nat := A 32 ((A 26 0 + q) % 60)
/-- the gates -/
def ig (A : nD) : Prop := A 8 0 ≤ 12 ∧
  (∀ g, g < A 8 0 → A 12 g ≤ 30 ∧ A 10 g ≤ 1 ∧ A 10 g = (lvs A g + A 14 g) % 2 ∧ (A 14 g = 0 → A 18 (2 * g) = A 18 (2 * g + 1) + A 10 g)) ∧
  (∀ g e, g < A 8 0 → e < 2 → g < A 16 (2 * g + e) ∧ (A 16 (2 * g + e) < A 8 0 ∨ (20 ≤ A 16 (2 * g + e) ∧ A 16 (2 * g + e) < 25))) ∧
  ∀ g, A 8 0 ≤ g → g < 12 → A 10 g = 0 ∧ A 14 g = 0 ∧ A 18 (2 * g) = 0 ∧ A 18 (2 * g + 1) = 0
/-- the balls -/
def ib (A : nD) : Prop := A 19 0 + A 1 1 + (A 5 0 + A 5 1 + A 5 2 + A 5 3 + A 5 4) = 40 ∧ A 19 0 + (A 7 0 + A 7 1 + A 7 2 + A 7 3 + A 7 4) = A 1 3 ∧
  (∀ r, r < A 19 0 → A 21 r < A 8 0 ∧ A 25 r ≤ A 21 r ∧ 1 ≤ A 23 r ∧ A 23 r ≤ A 1 0) ∧ ∀ r r', r < r' → r' < A 19 0 → A 23 r < A 23 r'
/-- the notes -/
def im (A : nD) : Prop := A 26 2 = sm (lvs A) (A 8 0) ∧ A 26 1 = min (A 26 2) 60 ∧ A 26 0 < 60 ∧ (∀ q, q < A 26 1 → nb A q ≤ A 1 0 ∧ np A q ≤ 30) ∧ ∀ q q', q ≤ q' → q' < A 26 1 → nb A q ≤ nb A q'
/-- settings, what is to be dropped, what is saved -/
def iw (A : nD) : Prop := 1 ≤ A 3 0 ∧ A 3 0 ≤ 9 ∧ 1 ≤ A 3 1 ∧ A 3 1 ≤ 40 ∧ A 1 2 ≤ 200
def inv (A : nD) : Prop := ig A ∧ ib A ∧ im A ∧ iw A
/-- how large: beats, flips; B < 2 ^ 24 -/
def bnd (B : Nat) (A : nD) : Prop := A 1 0 ≤ B ∧ (∀ g, g < 12 → A 14 g ≤ B) ∧ A 26 2 ≤ 40 * A 1 0 ∧ A 1 3 ≤ A 1 0 ∧ B < 2 ^ 24
def In (B : Nat) (D : am_DD) : Prop := ∃ A, rel A D ∧ inv A ∧ bnd B A
theorem sm_congr {f f' : Nat → Nat} : ∀ {n}, (∀ g, g < n → f g = f' g) → sm f n = sm f' n := by
  intro n
  induction n with
  | zero => intro _; rfl
  | succ n ih => intro h; unfold sm; rw [ih (fun g hg => h g (by omega)), h n (by omega)]
theorem sm_le {f : Nat → Nat} : ∀ {n g}, g < n → f g ≤ sm f n := by
  intro n
  induction n with
  | zero => intro g hg; omega
  | succ n ih =>
    intro g hg
    unfold sm
    by_cases z : g = n
    · subst z; omega
    · have := ih (show g < n by omega); omega
theorem sm_up {f f' : Nat → Nat} {g0 : Nat} (h0 : f' g0 = f g0 + 1) (ho : ∀ g, g ≠ g0 → f' g = f g) : ∀ {n}, g0 < n → sm f' n = sm f n + 1 := by
  intro n
  induction n with
  | zero => intro hg; omega
  | succ n ih =>
    intro hg
    unfold sm
    by_cases z : g0 = n
    · subst z
      rw [h0, sm_congr (fun g hg => ho g (by omega))]
      omega
    · rw [ih (by omega), ho n (fun q => z q.symm)]
      omega
theorem cn_congr {f f' : Nat → Nat} {t : Nat} : ∀ {n}, (∀ r, r < n → f r = f' r) → cn f t n = cn f' t n := by
  intro n
  induction n with
  | zero => intro _; rfl
  | succ n ih => intro h; unfold cn; rw [ih (fun g hg => h g (by omega)), h n (by omega)]
theorem cn_le {f : Nat → Nat} {t : Nat} : ∀ n, cn f t n ≤ n := by
  intro n
  induction n with
  | zero => exact Nat.le_refl _
  | succ n ih => unfold cn; split <;> omega
/-- one changes its place -/
theorem cn_up {f f' : Nat → Nat} {t w x : Nat} (h0 : f' w = x) (ho : ∀ r, r ≠ w → f' r = f r) : ∀ {n}, w < n → cn f' t n + (if f w = t then 1 else 0) = cn f t n + (if x = t then 1 else 0) := by
  intro n
  induction n with
  | zero => intro hg; omega
  | succ n ih =>
    intro hg
    unfold cn
    by_cases z : w = n
    · subst z
      rw [h0, cn_congr (f := f') (f' := f) (fun g hg => ho g (by omega))]
      omega
    · have := ih (show w < n by omega)
      rw [ho n (fun q => z q.symm)]
      omega
/-- one goes, those behind it close up -/
theorem cn_rm {f f' : Nat → Nat} {t w : Nat} : ∀ {n}, w < n → (∀ r, r < n - 1 → f' r = f (if r < w then r else r + 1)) → cn f' t (n - 1) + (if f w = t then 1 else 0) = cn f t n := by
  intro n
  induction n with
  | zero => intro hg; omega
  | succ n ih =>
    intro hg h
    rw [show n + 1 - 1 = n by omega] at h ⊢
    by_cases z : w = n
    · subst z
      have e : cn f' t w = cn f t w := cn_congr (fun r hr => by rw [h r hr, if_pos hr])
      rw [e]
      rfl
    · obtain ⟨k, rfl⟩ : ∃ k, n = k + 1 := ⟨n - 1, by omega⟩
      have i1 := ih (show w < k + 1 by omega) (fun r hr => h r (by omega))
      rw [show k + 1 - 1 = k by omega] at i1
      have e : f' k = f (k + 1) := by rw [h k (by omega), if_neg (by omega)]
      have u1 : cn f' t (k + 1) = cn f' t k + (if f' k = t then 1 else 0) := rfl
      have u2 : cn f t (k + 1 + 1) = cn f t (k + 1) + (if f (k + 1) = t then 1 else 0) := rfl
      rw [u1, u2, e]
      omega
/-! what does not change -/
section CG
variable {A A' : nD}
theorem ig_cg (h8 : A' 8 = A 8) (h10 : A' 10 = A 10) (h12 : A' 12 = A 12) (h14 : A' 14 = A 14) (h16 : A' 16 = A 16) (h18 : A' 18 = A 18) (h : ig A) : ig A' := by
  unfold ig lvs at h ⊢
  rw [h8, h10, h12, h14, h16, h18]
  exact h
theorem ib_cg (h0 : A' 1 0 = A 1 0) (h1 : A' 1 1 = A 1 1) (h3 : A' 1 3 = A 1 3) (h5 : A' 5 = A 5) (h7 : A' 7 = A 7) (h8 : A' 8 = A 8) (h19 : A' 19 = A 19) (h21 : A' 21 = A 21) (h23 : A' 23 = A 23) (h25 : A' 25 = A 25) (h : ib A) : ib A' := by
  unfold ib at h ⊢
  rw [h0, h1, h3, h5, h7, h8, h19, h21, h23, h25]
  exact h
theorem lvs_cg (h18 : A' 18 = A 18) : lvs A' = lvs A := by
  funext g
  unfold lvs
  rw [h18]
theorem nb_cg (h26 : A' 26 = A 26) (h28 : A' 28 = A 28) : nb A' = nb A := by
  funext q
  unfold nb
  rw [h26, h28]
theorem np_cg (h26 : A' 26 = A 26) (h32 : A' 32 = A 32) : np A' = np A := by
  funext q
  unfold np
  rw [h26, h32]
theorem im_cg (h0 : A' 1 0 = A 1 0) (h8 : A' 8 = A 8) (h18 : A' 18 = A 18) (h26 : A' 26 = A 26) (h28 : A' 28 = A 28) (h32 : A' 32 = A 32) (h : im A) : im A' := by
  unfold im at h ⊢
  rw [lvs_cg h18, nb_cg h26 h28, np_cg h26 h32, h0, h8, h26]
  exact h
theorem iw_cg (h2 : A' 1 2 = A 1 2) (h3 : A' 3 = A 3) (h : iw A) : iw A' := by
  unfold iw at h ⊢
  rw [h2, h3]
  exact h
theorem bnd_cg {B : Nat} (h0 : A' 1 0 = A 1 0) (h3 : A' 1 3 = A 1 3) (h14 : A' 14 = A 14) (h26 : A' 26 = A 26) (h : bnd B A) : bnd B A' := by
  unfold bnd at h ⊢
  rw [h0, h3, h14, h26]
  exact h
theorem bnd_mono {B B' : Nat} (hB : B ≤ B') (hB' : B' < 2 ^ 24) (h : bnd B A) : bnd B' A := ⟨by have := h.1; omega, fun g hg => by have := h.2.1 g hg; omega, h.2.2.1, h.2.2.2.1, hB'⟩
theorem In_mono {B B' : Nat} {D : am_DD} (hB : B ≤ B') (hB' : B' < 2 ^ 24) (h : In B D) : In B' D := by
  obtain ⟨A, h1, h2, h3⟩ := h
  exact ⟨A, h1, h2, bnd_mono hB hB' h3⟩
end CG
