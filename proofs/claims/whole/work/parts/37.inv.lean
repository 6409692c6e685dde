/-! the invariant: a state as the reference keeps it (s: 405 numbers) and as the class keeps it (E: row off of a state, place j) -/
def so (i : Nat) : Nat := [0, 7, 0, 18, 0, 2, 2, 0, 0, 25, 25].getD i 0
def sj (i : Nat) : Nat := [0, 0, 1, 0, 2, 0, 1, 3, 4, 2, 1].getD i 0
def go (w : Nat) : Nat := [9, 11, 15, 15, 17, 17, 13].getD w 0
def gj (w g : Nat) : Nat := if w = 2 ∨ w = 4 then 2 * g else if w = 3 ∨ w = 5 then 2 * g + 1 else g
/-- the same numbers in both: n balls in the run, kp notes kept, the oldest at o -/
def st_rel (n kp o : Nat) (s : Nat → Int32) (E : Nat → Nat → Int32) : Prop :=
  (∀ i, i < 11 → s i = E (so i) (sj i)) ∧ (∀ g w, g < 12 → w < 7 → s (11 + 7 * g + w) = E (go w) (gj w g)) ∧ (∀ b w, b < 5 → w < 2 → s (95 + 5 * w + b) = E (4 + 2 * w) b) ∧
  (∀ r w, r < n → w < 3 → s (105 + 3 * r + w) = E (20 + 2 * w) r) ∧ (∀ q w, q < kp → w < 3 → s (225 + 3 * q + w) = E (27 + 2 * w) ((o + q) % 60))
/-- the gates as they may be: m of them -/
def st_gates (m : Nat) (s : Nat → Int32) : Prop :=
  s 1 = Int32.ofNat m ∧ m ≤ 12 ∧ (∀ g, g < 12 → s (11 + 7 * g) = 0 ∨ s (11 + 7 * g) = 1) ∧ (∀ g, g < m → ∃ p, p ≤ 30 ∧ s (12 + 7 * g) = Int32.ofNat p) ∧
  (∀ g e, g < m → e < 2 → ∃ t, s (13 + 7 * g + e) = Int32.ofNat t ∧ ((g < t ∧ t < m) ∨ (20 ≤ t ∧ t < 25))) ∧
  ∀ g, m ≤ g → g < 12 → s (11 + 7 * g) = 0 ∧ s (15 + 7 * g) = 0 ∧ s (16 + 7 * g) = 0 ∧ s (17 + 7 * g) = 0
/-- the balls: n in the run, st in the stock, h b in the bin b -/
def st_balls (m n st : Nat) (h : Nat → Nat) (s : Nat → Int32) : Prop :=
  s 3 = Int32.ofNat n ∧ s 2 = Int32.ofNat st ∧ (∀ b, b < 5 → s (95 + b) = Int32.ofNat (h b)) ∧ n + st + (h 0 + h 1 + h 2 + h 3 + h 4) = 40 ∧ ∀ r, r < n → ∃ g, g < m ∧ s (105 + 3 * r) = Int32.ofNat g
/-- beat, settings, what is to be dropped, notes: kp kept, nb q the beat of the q-th -/
def st_rest (B kp : Nat) (nb : Nat → Nat) (s : Nat → Int32) : Prop :=
  (∃ bt, bt ≤ B ∧ s 0 = Int32.ofNat bt ∧ ∀ q, q < kp → nb q ≤ bt) ∧ (∃ w, w ≤ 200 ∧ s 4 = Int32.ofNat w) ∧ (∃ gp, 1 ≤ gp ∧ gp ≤ 9 ∧ s 5 = Int32.ofNat gp) ∧ (∃ lv, 1 ≤ lv ∧ lv ≤ 40 ∧ s 6 = Int32.ofNat lv) ∧
  s 10 = Int32.ofNat kp ∧ kp ≤ 60 ∧ (∀ q, q < kp → s (225 + 3 * q) = Int32.ofNat (nb q)) ∧ (∀ q q', q ≤ q' → q' < kp → nb q ≤ nb q') ∧ ∀ q, q < kp → ∃ p, p ≤ 30 ∧ s (227 + 3 * q) = Int32.ofNat p
def st_ok (B : Nat) (s : Nat → Int32) (E : Nat → Nat → Int32) : Prop :=
  ∃ (m n st kp o : Nat) (h nb : Nat → Nat), st_rel n kp o s E ∧ E 25 0 = Int32.ofNat o ∧ o < 60 ∧ st_gates m s ∧ st_balls m n st h s ∧ st_rest B kp nb s
def st_v (D : am_DD) (d : Nat) : Nat → Nat → Int32 := fun o j => D (d + o) j
/-- which cells of a state count -/
def st_hit (o j : Nat) : Bool := ru_hit 0 o j ru_lay
theorem st_h1 : ∀ i, i < 11 → st_hit (so i) (sj i) = true := by decide +kernel
theorem st_h2 : ∀ g, g < 12 → ∀ w, w < 7 → st_hit (go w) (gj w g) = true := by decide +kernel
theorem st_h3 : ∀ b, b < 5 → ∀ w, w < 2 → st_hit (4 + 2 * w) b = true := by decide +kernel
theorem st_h4 : ∀ r, r < 40 → ∀ w, w < 3 → st_hit (20 + 2 * w) r = true := by decide +kernel
theorem st_h5 : ∀ q, q < 60 → ∀ w, w < 3 → st_hit (27 + 2 * w) q = true := by decide +kernel
theorem st_congr {B : Nat} {s s' : Nat → Int32} {E E' : Nat → Nat → Int32} (hs : ∀ j, j < 405 → s' j = s j) (hE : ∀ o j, st_hit o j = true → E' o j = E o j) (h : st_ok B s E) : st_ok B s' E' := by
  obtain ⟨m, n, st, kp, o, hb, nb, ⟨r1, r2, r3, r4, r5⟩, e1, e2, ⟨g1, g2, g3, g4, g5, g6⟩, ⟨b1, b2, b3, b4, b5⟩, ⟨⟨bt, z1, z2, z3⟩, ⟨w, w1, w2⟩, ⟨gp, p1, p2, p3⟩, ⟨lv, l1, l2, l3⟩, t1, t2, t3, t4, t5⟩⟩ := h
  refine ⟨m, n, st, kp, o, hb, nb, ⟨fun i hi => ?_, fun g w hg hw => ?_, fun b w hb hw => ?_, fun r w hr hw => ?_, fun q w hq hw => ?_⟩, ?_, e2, ⟨?_, g2, fun g hg => ?_, fun g hg => ?_, fun g e hg he => ?_, fun g h1 h2 => ?_⟩, ⟨?_, ?_, fun b hb => ?_, b4, fun r hr => ?_⟩, ⟨⟨bt, z1, ?_, z3⟩, ⟨w, w1, ?_⟩, ⟨gp, p1, p2, ?_⟩, ⟨lv, l1, l2, ?_⟩, ?_, t2, fun q hq => ?_, t4, fun q hq => ?_⟩⟩
  · rw [hs _ (by omega), hE _ _ (st_h1 i hi)]; exact r1 i hi
  · rw [hs _ (by omega), hE _ _ (st_h2 g hg w hw)]; exact r2 g w hg hw
  · rw [hs _ (by omega), hE _ _ (st_h3 b hb w hw)]; exact r3 b w hb hw
  · rw [hs _ (by omega), hE _ _ (st_h4 r (by omega) w hw)]; exact r4 r w hr hw
  · rw [hs _ (by omega), hE _ _ (st_h5 _ (Nat.mod_lt _ (by decide)) w hw)]; exact r5 q w hq hw
  · rw [hE _ _ (by decide +kernel)]; exact e1
  · rw [hs _ (by omega)]; exact g1
  · rw [hs _ (by omega)]; exact g3 g hg
  · rw [hs _ (by omega)]; exact g4 g hg
  · rw [hs _ (by omega)]; exact g5 g e hg he
  · rw [hs _ (by omega), hs _ (by omega), hs _ (by omega), hs _ (by omega)]; exact g6 g h1 h2
  · rw [hs _ (by omega)]; exact b1
  · rw [hs _ (by omega)]; exact b2
  · rw [hs _ (by omega)]; exact b3 b hb
  · rw [hs _ (by omega)]; exact b5 r hr
  · rw [hs _ (by omega)]; exact z2
  · rw [hs _ (by omega)]; exact w2
  · rw [hs _ (by omega)]; exact p3
  · rw [hs _ (by omega)]; exact l3
  · rw [hs _ (by omega)]; exact t1
  · rw [hs _ (by omega)]; exact t3 q hq
  · rw [hs _ (by omega)]; exact t5 q hq
theorem st_mono {B B' : Nat} {s : Nat → Int32} {E : Nat → Nat → Int32} (hB : B ≤ B') (h : st_ok B s E) : st_ok B' s E := by
  obtain ⟨m, n, st, kp, o, hb, nb, r, e1, e2, g, b, ⟨⟨bt, z1, z2, z3⟩, rest⟩⟩ := h
  exact ⟨m, n, st, kp, o, hb, nb, r, e1, e2, g, b, ⟨⟨bt, Nat.le_trans z1 hB, z2, z3⟩, rest⟩⟩
/-! the whole invariant -/
/-- what is saved: o where the oldest lies, c how many -/
def hs_ok (B : Nat) (D : am_DD) : Prop := ∃ o c : Nat, o < 6 ∧ c ≤ 6 ∧ D 56 1 = Int32.ofNat o ∧ D 56 2 = Int32.ofNat c ∧ D 321 2 = Int32.ofNat c ∧ ∀ r, r < c → st_ok B (fun j => D 323 (405 * r + j)) (st_v D (59 + 32 * ((o + r) % 6)))
def sn_ok (B : Nat) (D : am_DD) : Prop := ∀ t, t < 2 → (D 325 t = 0 ∧ D 320 t = 0) ∨ (D 325 t = 1 ∧ D 320 t = 1 ∧ st_ok B (fun j => D 324 (405 * t + j)) (st_v D (255 + 32 * t)))
def tx_ok (D : am_DD) : Prop := ∃ len : Nat, len ≤ 60 ∧ D 45 0 = Int32.ofNat len ∧ D 321 6 = Int32.ofNat len ∧ ∀ j, j < len → D 47 j = D 326 j ∧ 33 ≤ (D 326 j).toInt ∧ (D 326 j).toInt ≤ 126
def in_ok (k : Nat) (D : am_DD) : Prop := st_ok (1000 * k) (D 322) (st_v D 1) ∧ hs_ok (1000 * k) D ∧ sn_ok (1000 * k) D ∧ tx_ok D
/-- cells that no call needs later -/
def in_scr (a k : Nat) : Bool := [35, 37, 39, 42, 44, 49, 51, 53, 55, 252, 327, 328, 329].contains a || ((a == 40 && k == 3) || ((a == 45 && (k == 2 || k == 3)) || (a == 321 && (k == 7 || (k == 9 || (k == 10 || k == 12))))))
/-- the same but there -/
def in_agr (D D' : am_DD) : Prop := ∀ a k, in_scr a k = false → D' a k = D a k
theorem in_agr.rf (D : am_DD) : in_agr D D := fun _ _ _ => rfl
theorem in_agr.tr {D1 D2 D3 : am_DD} (h1 : in_agr D1 D2) (h2 : in_agr D2 D3) : in_agr D1 D3 := fun a k h => (h2 a k h).trans (h1 a k h)
theorem in_agr.upd {D D' : am_DD} {a k : Nat} {v : Int32} (h : in_agr D D') (hs : in_scr a k = true) : in_agr D (am_upd D' a k v) := fun a' k' h' => by
  rw [u_ne (fun z => by rw [z.1, z.2, hs] at h'; cases h')]
  exact h a' k' h'
theorem st_v_hit {o j : Nat} (h : st_hit o j = true) : o < 32 := by
  have h2 : ∀ e ∈ ru_lay, e.1 < 32 := by decide +kernel
  unfold st_hit ru_hit at h
  obtain ⟨e, he, h3⟩ := List.any_eq_true.mp h
  simp only [Bool.and_eq_true, decide_eq_true_eq] at h3
  have := h2 e he
  omega
theorem in_scr_live : ∀ a, a < 33 → ∀ k, in_scr a k = false := by
  intro a ha k
  have h : ∀ a, a < 33 → [35, 37, 39, 42, 44, 49, 51, 53, 55, 252, 327, 328, 329].contains a = false := by decide +kernel
  unfold in_scr
  rw [h a ha]
  simp
  omega
theorem in_scr_runs : ∀ a, 56 ≤ a → a < 320 → a ≠ 252 → ∀ k, in_scr a k = false := by
  intro a h1 h2 h3 k
  unfold in_scr
  simp
  omega
theorem in_ok.agr {k k' : Nat} (hk : k ≤ k') {D D' : am_DD} (h : in_agr D D') (hi : in_ok k D) : in_ok k' D' := by
  obtain ⟨h1, ⟨o, c, o1, o2, o3, o4, o5, o6⟩, h3, ⟨len, t1, t2, t3, t4⟩⟩ := hi
  refine ⟨st_mono (by omega) (st_congr (fun j _ => h 322 j (by simp [in_scr])) (fun o j ho => h (1 + o) j (in_scr_live _ (by have := st_v_hit ho; omega) _)) h1),
    ⟨o, c, o1, o2, by rw [h 56 1 (by simp [in_scr])]; exact o3, by rw [h 56 2 (by simp [in_scr])]; exact o4, by rw [h 321 2 (by simp [in_scr])]; exact o5, fun r hr => st_mono (by omega) (st_congr (fun j _ => h 323 _ (by simp [in_scr])) (fun q j hq => h _ j ?_) (o6 r hr))⟩,
    fun t ht => ?_, ⟨len, t1, by rw [h 45 0 (by simp [in_scr])]; exact t2, by rw [h 321 6 (by simp [in_scr])]; exact t3, fun j hj => ?_⟩⟩
  · have h9 := st_v_hit hq
    have h8 : (o + r) % 6 < 6 := Nat.mod_lt _ (by decide)
    exact in_scr_runs _ (by omega) (by omega) (by omega) _
  · rw [h 325 t (by simp [in_scr]), h 320 t (by simp [in_scr])]
    rcases h3 t ht with g | ⟨g1, g2, g3⟩
    · exact Or.inl g
    · refine Or.inr ⟨g1, g2, st_mono (by omega) (st_congr (fun j _ => h 324 _ (by simp [in_scr])) (fun q j hq => h _ j ?_) g3)⟩
      have h9 := st_v_hit hq
      exact in_scr_runs _ (by omega) (by omega) (by omega) _
  · rw [h 47 j (by simp [in_scr]), h 326 j (by simp [in_scr])]
    exact t4 j hj
