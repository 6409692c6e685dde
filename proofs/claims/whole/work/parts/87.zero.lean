/-! the start keeps the invariant -/
set_option maxRecDepth 100000 in
theorem z_size1 : ∀ o, o < 32 → ∀ j, j < 60 → st_hit o j = true → j < ay_size (ay_SK.getD (1 + o) (.inr (0, 0, []))) := by decide +kernel
theorem z_j60 {o j : Nat} (h : st_hit o j = true) : j < 60 := by
  have h2 : ∀ e ∈ ru_lay, e.2 ≤ 60 := by decide +kernel
  unfold st_hit ru_hit at h
  obtain ⟨e, he, h3⟩ := List.any_eq_true.mp h
  simp only [Bool.and_eq_true, decide_eq_true_eq] at h3
  have := h2 e he
  omega
set_option maxRecDepth 100000 in
theorem z_size2 : ay_size (ay_SK.getD 322 (.inr (0, 0, []))) = 405 ∧ ay_size (ay_SK.getD 320 (.inr (0, 0, []))) = 2 ∧ ay_size (ay_SK.getD 325 (.inr (0, 0, []))) = 2 ∧ 2 < ay_size (ay_SK.getD 56 (.inr (0, 0, []))) ∧ 6 < ay_size (ay_SK.getD 321 (.inr (0, 0, []))) ∧ 0 < ay_size (ay_SK.getD 45 (.inr (0, 0, []))) := by decide +kernel
set_option maxRecDepth 100000 in
theorem z_vals : ay_D0 56 1 = 0 ∧ ay_D0 56 2 = 0 ∧ ay_D0 321 2 = 0 ∧ ay_D0 45 0 = 0 ∧ ay_D0 321 6 = 0 ∧ (∀ t, t < 2 → ay_D0 325 t = 0 ∧ ay_D0 320 t = 0) := by decide +kernel
set_option maxRecDepth 100000 in
theorem z_rel : (∀ i, i < 11 → ay_D0 322 i = ay_D0 (1 + so i) (sj i)) ∧ (∀ g, g < 12 → ∀ w, w < 7 → ay_D0 322 (11 + 7 * g + w) = ay_D0 (1 + go w) (gj w g)) ∧ (∀ b, b < 5 → ∀ w, w < 2 → ay_D0 322 (95 + 5 * w + b) = ay_D0 (1 + (4 + 2 * w)) b) := by decide +kernel
set_option maxRecDepth 100000 in
theorem z_s : ay_D0 322 1 = 0 ∧ ay_D0 322 3 = 0 ∧ ay_D0 322 2 = 40 ∧ ay_D0 322 0 = 0 ∧ ay_D0 322 4 = 0 ∧ ay_D0 322 10 = 0 ∧ ay_D0 26 0 = 0 ∧ (∀ g, g < 12 → ay_D0 322 (11 + 7 * g) = 0 ∧ ay_D0 322 (15 + 7 * g) = 0 ∧ ay_D0 322 (16 + 7 * g) = 0 ∧ ay_D0 322 (17 + 7 * g) = 0) ∧ (∀ b, b < 5 → ay_D0 322 (95 + b) = 0) := by decide +kernel
set_option maxRecDepth 100000 in
theorem z_s2 : (1 ≤ (ay_D0 322 5).toInt ∧ (ay_D0 322 5).toInt ≤ 9) ∧ 1 ≤ (ay_D0 322 6).toInt ∧ (ay_D0 322 6).toInt ≤ 40 := by decide +kernel
theorem z_ok : st_ok 0 (ay_D0 322) (st_v ay_D0 1) := by
  obtain ⟨s1, s3, s2, s0, s4, s10, o0, sg, sb⟩ := z_s
  obtain ⟨⟨p1, p2⟩, p3, p4⟩ := z_s2
  obtain ⟨gp, g1, g2, -⟩ := rng_nat (a := ay_D0 322 5) (hi := 9) ⟨by omega, p2⟩
  obtain ⟨lvl, l1, l2, -⟩ := rng_nat (a := ay_D0 322 6) (hi := 40) ⟨by omega, p4⟩
  have g3 : 1 ≤ gp := by rw [g1, t_ofNat (by omega)] at p1; omega
  have l3 : 1 ≤ lvl := by rw [l1, t_ofNat (by omega)] at p3; omega
  exact ⟨0, 0, 40, 0, 0, fun _ => 0, fun _ => 0, ⟨z_rel.1, fun g w hg hw => z_rel.2.1 g hg w hw, fun b w hb hw => z_rel.2.2 b hb w hw, fun r w hr _ => by omega, fun q w hq _ => by omega⟩, o0, by omega,
    ⟨s1, by omega, fun g hg => Or.inl (sg g hg).1, fun g hg => by omega, fun g e hg _ => by omega, fun g _ hg => sg g hg⟩, ⟨s3, s2, fun b hb => sb b hb, rfl, fun r hr => by omega⟩,
    ⟨0, by omega, s0, fun q hq => by omega⟩, ⟨0, by omega, s4⟩, ⟨gp, g3, by omega, g1⟩, ⟨lvl, l3, by omega, l1⟩, s10, by omega, fun q hq => by omega, fun q q' _ hq => by omega, fun q hq => by omega⟩
theorem in_zero {D : am_DD} (h : ∀ a, a < 330 → a ≠ 323 → a ≠ 324 → ∀ k, k < ay_size (ay_SK.getD a (.inr (0, 0, []))) → D a k = ay_D0 a k) : in_ok 0 D := by
  obtain ⟨a1, a2, a3, a4, a5, a6⟩ := z_size2
  obtain ⟨v1, v2, v3, v4, v5, v6⟩ := z_vals
  refine ⟨?_, ⟨0, 0, by omega, by omega, ?_, ?_, ?_, fun r hr => by omega⟩, fun t ht => Or.inl ⟨?_, ?_⟩, ⟨0, by omega, ?_, ?_, fun j hj => by omega⟩⟩
  · refine st_congr (fun j hj => h 322 (by omega) (by omega) (by omega) j (by omega)) (fun o j ho => ?_) z_ok
    have h1 := st_v_hit ho
    exact h (1 + o) (by omega) (by omega) (by omega) j (z_size1 o h1 j (z_j60 ho) ho)
  · rw [h 56 (by omega) (by omega) (by omega) 1 (by omega), v1]; rfl
  · rw [h 56 (by omega) (by omega) (by omega) 2 (by omega), v2]; rfl
  · rw [h 321 (by omega) (by omega) (by omega) 2 (by omega), v3]; rfl
  · rw [h 325 (by omega) (by omega) (by omega) t (by omega), (v6 t ht).1]
  · rw [h 320 (by omega) (by omega) (by omega) t (by omega), (v6 t ht).2]
  · rw [h 45 (by omega) (by omega) (by omega) 0 (by omega), v4]; rfl
  · rw [h 321 (by omega) (by omega) (by omega) 6 (by omega), v5]; rfl
theorem all_of (h10 : ∀ k D, in_ok k D → in_w2 k (fn_118 D) fn_127) (h11 : ∀ k D, in_ok k D → in_wr (hmf 1 0 0) k (fn_136 D) fn_138) (h21 : ∀ k D a, k < 512 → in_ok k D → in_wr (hmf 1 0 0) k (fn_197 a D) (fn_206 a)) (hs : ∀ (k n : Nat) (xs : Nat → Int32) (D : am_DD), in_ok k D → n ≤ 2048 → 4 * k + 4 ≤ n → ∃ D' c s, c ≤ 1 ∧ s ≤ 6 ∧ ay_lw n xs (Int32.ofNat (4 * k)) D D' c s ∧ in_ok (k + 1) D') : ay_ok in_ok :=
  ⟨fun D h => in_zero h, fun k n xs D hi hn h4 => hs k n xs D hi hn h4⟩
