/-! balls that are dropped pass the gates as rolling out tells, in whatever order they go -/
def flow (A0 : nD) (k : Nat) (A : nD) : Prop :=
  A 8 = A0 8 ∧ A 16 = A0 16 ∧ A0 1 3 ≤ A 1 3 ∧ A 1 2 + A 1 3 = A0 1 3 + k ∧ ∃ X : Nat → Nat,
    (∀ g, g < A0 8 0 → A 10 g = par (X g) (A0 10 g) ∧ A 18 (2 * g + A0 10 g) = A0 18 (2 * g + A0 10 g) + (X g + 1) / 2 ∧ A 18 (2 * g + (1 - A0 10 g)) = A0 18 (2 * g + (1 - A0 10 g)) + X g / 2) ∧
    (∀ b, b < 5 → A 7 b = A0 7 b + X (20 + b)) ∧
    ∀ t, X t + cn (A 21) t (A 19 0) = (if t = 0 then A 1 3 - A0 1 3 else 0) + rs (t0 A0) (t1 A0) X t (A0 8 0)
section FL
variable {A0 : nD} {k : Nat}
theorem flow_same {V V' : nD} (h1 : V' 1 2 = V 1 2) (h3 : V' 1 3 = V 1 3) (h7 : V' 7 = V 7) (h8 : V' 8 = V 8) (h10 : V' 10 = V 10) (h16 : V' 16 = V 16) (h18 : V' 18 = V 18) (h19 : V' 19 0 = V 19 0) (h21 : ∀ j, j < V 19 0 → V' 21 j = V 21 j) (h : flow A0 k V) : flow A0 k V' := by
  obtain ⟨f1, f2, f3, f4, X, x1, x2, x3⟩ := h
  refine ⟨h8.trans f1, h16.trans f2, by rw [h3]; exact f3, by rw [h1, h3]; exact f4, X, fun g hg => by rw [h10, h18]; exact x1 g hg, fun b hb => by rw [h7]; exact x2 b hb, fun t => ?_⟩
  rw [h19, h3, cn_congr (f := V' 21) (f' := V 21) h21]
  exact x3 t
theorem flow_pss (h0 : ig A0) {V V' : nD} {w g t : Nat} (hi : inv V) (hp : pss V V' w g t) (h : flow A0 k V) : flow A0 k V' := by
  obtain ⟨hg, hgt, ht⟩ := pss_g hi hp
  obtain ⟨⟨a1, a2, a3⟩, ⟨c1, c3, c8, c12, c14, c16⟩, ⟨d10, d18⟩, -, hc⟩ := hp
  obtain ⟨f1, f2, f3, f4, X, x1, x2, x3⟩ := h
  have hm := h0.1
  have hm8 := hi.1.1
  rw [f1] at hg
  have hs0 : A0 10 g ≤ 1 := (h0.2.1 g hg).2.1
  obtain ⟨y1, y2, y3⟩ := x1 g hg
  have htT : t = if X g % 2 = 0 then t0 A0 g else t1 A0 g := by
    rw [a3, f2, y1]
    unfold par t0 t1 tg sd
    split <;> rfl
  generalize hY : (fun j => if j = g then X g + 1 else if j = t ∧ 20 ≤ t then X t + 1 else X j) = Y
  have Yg : Y g = X g + 1 := by rw [← hY]; exact if_pos rfl
  have Yo : ∀ j, j ≠ g → Y j = if j = t ∧ 20 ≤ t then X t + 1 else X j := fun j hj => by rw [← hY]; exact if_neg hj
  have rsY : ∀ t', rs (t0 A0) (t1 A0) Y t' (A0 8 0) = rs (t0 A0) (t1 A0) X t' (A0 8 0) + (if t = t' then 1 else 0) := fun t' => by
    have e1 := rs_step (T0 := t0 A0) (T1 := t1 A0) (A := X) (t := t') (x := g) (A0 8 0)
    rw [if_pos hg] at e1
    have e2 : rs (t0 A0) (t1 A0) Y t' (A0 8 0) = rs (t0 A0) (t1 A0) (fun j => if j = g then X j + 1 else X j) t' (A0 8 0) := rs_congr _ fun g' hg' _ => by
      by_cases z : g' = g
      · rw [z, Yg]
        exact (if_pos rfl).symm
      · rw [Yo g' z, if_neg (by omega)]
        exact (if_neg z).symm
    rw [e2, e1, htT]
    congr 1
    by_cases z : X g % 2 = 0
    · rw [if_pos z, if_pos z]
    · rw [if_neg z, if_neg z]
  refine ⟨c8.trans f1, c16.trans f2, by rw [c1]; exact f3, by rw [c1]; exact f4, Y, fun g' hg' => ?_, fun b hb => ?_, fun t' => ?_⟩
  · rw [d10, d18, d18]
    by_cases z : g' = g
    · subst z
      rw [if_pos rfl, Yg, y2, y3, y1]
      unfold par
      have : A0 10 g' = 0 ∨ A0 10 g' = 1 := by omega
      by_cases q : X g' % 2 = 0
      · rw [if_pos q, if_neg (show ¬ (X g' + 1) % 2 = 0 by omega), if_pos rfl, if_neg (by omega)]
        omega
      · rw [if_neg q, if_pos (show (X g' + 1) % 2 = 0 by omega), if_neg (by omega), if_pos rfl]
        omega
    · have hs' : A0 10 g' ≤ 1 := (h0.2.1 g' hg').2.1
      have hv : V 10 g ≤ 1 := by rw [y1]; unfold par; split <;> omega
      rw [if_neg z, if_neg (by omega), if_neg (by omega), Yo g' z, if_neg (by omega)]
      exact x1 g' hg'
  · rw [Yo (20 + b) (by omega)]
    have q := x2 b hb
    rcases hc with ⟨t20, e19, e5, e7, e21, e23, e25⟩ | ⟨t20, e19, e5, e7, er⟩
    · rw [e7, if_neg (by omega)]
      exact q
    · rw [e7]
      by_cases z : b = t - 20
      · rw [if_pos z, if_pos (by omega), show t = 20 + b by omega, q]
        omega
      · rw [if_neg z, if_neg (by omega)]
        exact q
  · have q := x3 t'
    have r := rsY t'
    rw [c1]
    have hX : Y t' = X t' + (if t' = g then 1 else 0) + (if t' = t ∧ 20 ≤ t then 1 else 0) := by
      by_cases z : t' = g
      · rw [z, Yg, if_pos rfl, if_neg (by omega)]
      · rw [Yo t' z, if_neg z]
        by_cases z2 : t' = t ∧ 20 ≤ t
        · rw [if_pos z2, if_pos z2, z2.1]
        · rw [if_neg z2, if_neg z2]
          omega
    rcases hc with ⟨t20, e19, e5, e7, e21, e23, e25⟩ | ⟨t20, e19, e5, e7, er⟩
    · have u := cn_up (f := V 21) (f' := V' 21) (t := t') (w := w) (x := t) (by rw [e21, if_pos rfl]) (fun r hr => by rw [e21, if_neg hr]) a1
      rw [a2] at u
      rw [e19]
      rw [if_neg (show ¬ (t' = t ∧ 20 ≤ t) by omega)] at hX
      have s1 : (if g = t' then 1 else 0) = (if t' = g then 1 else 0) := by
        by_cases z : g = t'
        · rw [if_pos z, if_pos z.symm]
        · rw [if_neg z, if_neg (fun y => z y.symm)]
      rw [s1] at u
      omega
    · have u := cn_rm (f := V 21) (f' := V' 21) (t := t') (w := w) a1 (fun r hr => er 21 r (by omega))
      rw [a2] at u
      rw [e19]
      have s1 : (if g = t' then 1 else 0) = (if t' = g then 1 else 0) := by
        by_cases z : g = t'
        · rw [if_pos z, if_pos z.symm]
        · rw [if_neg z, if_neg (fun y => z y.symm)]
      have s2 : (if t' = t ∧ 20 ≤ t then 1 else 0) = (if t = t' then 1 else 0) := by
        by_cases z : t = t'
        · rw [if_pos z, if_pos ⟨z.symm, t20⟩]
        · rw [if_neg z, if_neg (fun y => z y.1.symm)]
      rw [s1] at u
      rw [s2] at hX
      omega
theorem flow_drp {V V' : nD} (hp : drp V V') (h : flow A0 k V) : flow A0 k V' := by
  obtain ⟨⟨a1, a2, a3⟩, ⟨p0, p1, p2, p3⟩, ⟨c3, c5, c7, c8, c10, c12, c14, c16, c18, c26, c28, c32⟩, e19, e21, e23, e25⟩ := hp
  obtain ⟨f1, f2, f3, f4, X, x1, x2, x3⟩ := h
  refine ⟨c8.trans f1, c16.trans f2, by rw [p3]; omega, by rw [p2, p3]; omega, X, fun g hg => by rw [c10, c18]; exact x1 g hg, fun b hb => by rw [c7]; exact x2 b hb, fun t => ?_⟩
  have q := x3 t
  rw [e19, p3]
  have e : cn (V' 21) t (V 19 0 + 1) = cn (V 21) t (V 19 0) + (if 0 = t then 1 else 0) := by
    show cn (V' 21) t (V 19 0) + (if V' 21 (V 19 0) = t then 1 else 0) = _
    rw [e21, if_pos rfl, cn_congr (f := V' 21) (f' := V 21) (fun r hr => by rw [e21, if_neg (by omega)])]
  rw [e]
  by_cases z : t = 0
  · rw [if_pos z] at q
    rw [if_pos z, if_pos z.symm]
    omega
  · rw [if_neg z] at q
    rw [if_neg z, if_neg (fun y => z y.symm)]
    omega
theorem flow_kept (h0 : ig A0) : kept (flow A0 k) :=
  ⟨fun V V' hb h => flow_same (hb.2.1 2 (by decide)) (hb.2.1 3 (by decide)) (hb.2.2 7 (by decide)) (hb.2.2 8 (by decide)) (hb.2.2 10 (by decide)) (hb.2.2 16 (by decide)) (hb.2.2 18 (by decide)) (by rw [hb.2.2 19 (by decide)]) (fun j _ => by rw [hb.2.2 21 (by decide)]) h,
   fun V V' w g t hi hp h => flow_pss h0 hi hp h, fun V V' _ hp h => flow_drp hp h,
   fun V V' b hl h => by
     obtain ⟨-, ⟨p0, p1, p2, p3⟩, -, c3, c7, c8, c10, c12, c14, c16, c18, c26, c28, c32, c19, c21, c23, c25⟩ := hl
     exact flow_same p2 p3 c7 c8 c10 c16 c18 (by rw [c19]) (fun j _ => by rw [c21]) h,
   fun V V' hr h19 hb h => flow_same (by rw [hr 1 (by decide) (by decide) (by decide) (by decide)]) (by rw [hr 1 (by decide) (by decide) (by decide) (by decide)]) (hr 7 (by decide) (by decide) (by decide) (by decide)) (hr 8 (by decide) (by decide) (by decide) (by decide)) (hr 10 (by decide) (by decide) (by decide) (by decide)) (hr 16 (by decide) (by decide) (by decide) (by decide)) (hr 18 (by decide) (by decide) (by decide) (by decide)) h19 (fun j hj => hb 21 j (by omega) hj) h⟩
theorem flow_empty {A : nD} {b : Nat} (h : flow A0 k A) : flow A0 k (A_empty A b) := by
  have er : ∀ a, a ≠ 5 → a ≠ 1 → A_empty A b a = A a := fun a h h2 => by
    unfold A_empty
    rw [nu_row h2, nu_row h]
  have e1 : ∀ k, k ≠ 1 → A_empty A b 1 k = A 1 k := fun k hk => by
    unfold A_empty
    rw [nu_ne (fun q => hk q.2), nu_ne (by omega)]
  exact flow_same (e1 2 (by decide)) (e1 3 (by decide)) (er 7 (by decide) (by decide)) (er 8 (by decide) (by decide)) (er 10 (by decide) (by decide)) (er 16 (by decide) (by decide)) (er 18 (by decide) (by decide)) (by rw [er 19 (by decide) (by decide)]) (fun j _ => by rw [er 21 (by decide) (by decide)]) h
theorem flow_start (h0 : ig A0) (hn : A0 19 0 = 0) (hw : A0 1 2 = 0) : flow A0 k (nup A0 1 2 (A0 1 2 + k)) := by
  have er : ∀ a, a ≠ 1 → nup A0 1 2 (A0 1 2 + k) a = A0 a := fun a h => nu_row h
  refine ⟨er 8 (by decide), er 16 (by decide), by rw [nu_ne (by omega)]; exact Nat.le_refl _, by rw [nu_self, nu_ne (by omega)]; omega, fun _ => 0, fun g hg => ?_, fun b hb => by rw [er 7 (by decide)]; rfl, fun t => ?_⟩
  · rw [er 10 (by decide), er 18 (by decide)]
    exact ⟨rfl, by simp, by simp⟩
  · rw [er 19 (by decide), hn, nu_ne (by omega), Nat.sub_self, rs_zero]
    unfold cn
    split <;> rfl
theorem flow_end (h0 : ig A0) (hm : 0 < A0 8 0) {A : nD} (hn : A 19 0 = 0) (hw : A 1 2 = 0) (h : flow A0 k A) : A 8 0 = A0 8 0 ∧ (∀ g, g < A0 8 0 → lvs A g = lvs A0 g + ar A0 k g) ∧ ∀ b, b < 5 → A 7 b = A0 7 b + ar A0 k (20 + b) := by
  obtain ⟨f1, f2, f3, f4, X, x1, x2, x3⟩ := h
  have hX : ∀ t, X t = ar A0 k t := fun t => by
    rw [ar_pos hm, ← fp_bs h0 (V := X) (fun t => ?_) t]
    have := x3 t
    rw [hn, cn, Nat.add_zero] at this
    rw [this, show A 1 3 - A0 1 3 = k by omega]
  refine ⟨by rw [f1], fun g hg => ?_, fun b hb => by rw [x2 b hb, hX]⟩
  have hs := (h0.2.1 g hg).2.1
  obtain ⟨-, y2, y3⟩ := x1 g hg
  rw [← hX g]
  unfold lvs
  have : A0 10 g = 0 ∨ A0 10 g = 1 := by omega
  rcases this with e | e
  · rw [e] at y2 y3
    rw [show 2 * g + 0 = 2 * g by omega] at y2
    rw [show 2 * g + (1 - 0) = 2 * g + 1 by omega] at y3
    omega
  · rw [e] at y2 y3
    rw [show 2 * g + (1 - 1) = 2 * g by omega] at y3
    omega
end FL
