/-! the calls put together -/
theorem in_wr_cases {h0 h1 h2 : Int32} {k : Nat} {C : Option (Int32 × Nat × am_DD)} {M : am_DD → Option (Int32 × am_DD)} (h : in_wr (hmf h0 h1 h2) k C M) :
    (∃ y D1 D2, C = some (y, 0, D1) ∧ M (am_upd D1 329 0 y) = some (y, D2) ∧ D2 321 7 = 0 ∧ D2 329 0 = y ∧ in_ok (k + 1) D2) ∨ (h0 ≠ 0 ∧ ∃ y D1 b D2, C = some (y, 1, D1) ∧ M D1 = some (b, D2) ∧ D2 321 7 = h0 ∧ in_ok (k + 1) D2) ∨ (h1 ≠ 0 ∧ ∃ y D1 b D2, C = some (y, 2, D1) ∧ M D1 = some (b, D2) ∧ D2 321 7 = h1 ∧ in_ok (k + 1) D2) ∨ (h2 ≠ 0 ∧ ∃ y D1 b D2, C = some (y, 3, D1) ∧ M D1 = some (b, D2) ∧ D2 321 7 = h2 ∧ in_ok (k + 1) D2) := by
  obtain ⟨y, kk, D1, hC, hh⟩ := h
  rcases hh with ⟨rfl, D2, a1, a2, a3, a4⟩ | ⟨b1, b2, b, D2, b3, b4, b5⟩
  · exact Or.inl ⟨y, D1, D2, hC, a1, a2, a3, a4⟩
  · obtain rfl | rfl | rfl | hk : kk = 1 ∨ kk = 2 ∨ kk = 3 ∨ 3 < kk := by omega
    · exact Or.inr (Or.inl ⟨b1, y, D1, b, D2, hC, b3, b4, b5⟩)
    · exact Or.inr (Or.inr (Or.inl ⟨b1, y, D1, b, D2, hC, b3, b4, b5⟩))
    · exact Or.inr (Or.inr (Or.inr ⟨b1, y, D1, b, D2, hC, b3, b4, b5⟩))
    · exfalso
      apply b1
      unfold hmf
      rw [if_neg (by omega), if_neg (by omega), if_neg (by omega)]
def cs_to (n : Nat) (xs : Nat → Int32) (i : Int32) (k : Nat) (D : am_DD) : Prop := ∃ D' c s, c ≤ 1 ∧ s ≤ 6 ∧ ay_lw n xs i D D' c s ∧ in_ok (k + 1) D'
section VC
variable {n k : Nat} {xs : Nat → Int32} {i v0 v1 v2 v3 : Int32} {D : am_DD}
theorem cs_0 (hop : in_wr (hmf 1 2 0) k (fn_24 v1 D) (fn_34 v1)) (q0 : ¬ (i < 0 ∨ n ≤ i.toNatClampNeg)) (e0 : xs i.toNatClampNeg = v0) (q1 : ¬ ((i + 1) < 0 ∨ n ≤ (i + 1).toNatClampNeg)) (e1 : xs (i + 1).toNatClampNeg = v1) (hc : v0 &&& 31 = 0) : cs_to n xs i k D := by
  rcases in_wr_cases hop with ⟨y, D1, D2, h1, h2, h3, h4, h5⟩ | ⟨hz, y, D1, b, D2, h1, h2, h3, h4⟩ | ⟨hz, y, D1, b, D2, h1, h2, h3, h4⟩ | ⟨hz, y, D1, b, D2, h1, h2, h3, h4⟩
  · exact ⟨D2, 0, 0, by omega, by omega, lw_0 q0 e0 q1 e1 hc (wr_25 h1) (ev_34 h2) h3 (fun _ => h4), h5⟩
  · exact ⟨D2, 1, 6, by omega, by omega, lw_0 q0 e0 q1 e1 hc (wr_25_0 h1) (ev_34 h2) h3 (fun z => absurd z (by decide)), h4⟩
  · exact ⟨D2, 1, 6, by omega, by omega, lw_0 q0 e0 q1 e1 hc (wr_25_1 h1) (ev_34 h2) h3 (fun z => absurd z (by decide)), h4⟩
  · exact absurd rfl hz
theorem cs_1 (hop : in_wr (hmf 2 0 1) k (fn_42 v1 v2 v3 D) (fn_50 v1 v2 v3)) (q0 : ¬ (i < 0 ∨ n ≤ i.toNatClampNeg)) (e0 : xs i.toNatClampNeg = v0) (q1 : ¬ ((i + 1) < 0 ∨ n ≤ (i + 1).toNatClampNeg)) (e1 : xs (i + 1).toNatClampNeg = v1) (q2 : ¬ ((i + 2) < 0 ∨ n ≤ (i + 2).toNatClampNeg)) (e2 : xs (i + 2).toNatClampNeg = v2) (q3 : ¬ ((i + 3) < 0 ∨ n ≤ (i + 3).toNatClampNeg)) (e3 : xs (i + 3).toNatClampNeg = v3) (hc : v0 &&& 31 = 1) : cs_to n xs i k D := by
  rcases in_wr_cases hop with ⟨y, D1, D2, h1, h2, h3, h4, h5⟩ | ⟨hz, y, D1, b, D2, h1, h2, h3, h4⟩ | ⟨hz, y, D1, b, D2, h1, h2, h3, h4⟩ | ⟨hz, y, D1, b, D2, h1, h2, h3, h4⟩
  · exact ⟨D2, 0, 0, by omega, by omega, lw_1 q0 e0 q1 e1 q2 e2 q3 e3 hc (wr_43 h1) (ev_50 h2) h3 (fun _ => h4), h5⟩
  · exact ⟨D2, 1, 6, by omega, by omega, lw_1 q0 e0 q1 e1 q2 e2 q3 e3 hc (wr_43_0 h1) (ev_50 h2) h3 (fun z => absurd z (by decide)), h4⟩
  · exact absurd rfl hz
  · exact ⟨D2, 1, 6, by omega, by omega, lw_1 q0 e0 q1 e1 q2 e2 q3 e3 hc (wr_43_2 h1) (ev_50 h2) h3 (fun z => absurd z (by decide)), h4⟩
theorem cs_2 (hop : in_wr (hmf 2 0 1) k (fn_52 v1 v2 D) (fn_54 v1 v2)) (q0 : ¬ (i < 0 ∨ n ≤ i.toNatClampNeg)) (e0 : xs i.toNatClampNeg = v0) (q1 : ¬ ((i + 1) < 0 ∨ n ≤ (i + 1).toNatClampNeg)) (e1 : xs (i + 1).toNatClampNeg = v1) (q2 : ¬ ((i + 2) < 0 ∨ n ≤ (i + 2).toNatClampNeg)) (e2 : xs (i + 2).toNatClampNeg = v2) (hc : v0 &&& 31 = 2) : cs_to n xs i k D := by
  rcases in_wr_cases hop with ⟨y, D1, D2, h1, h2, h3, h4, h5⟩ | ⟨hz, y, D1, b, D2, h1, h2, h3, h4⟩ | ⟨hz, y, D1, b, D2, h1, h2, h3, h4⟩ | ⟨hz, y, D1, b, D2, h1, h2, h3, h4⟩
  · exact ⟨D2, 0, 0, by omega, by omega, lw_2 q0 e0 q1 e1 q2 e2 hc (wr_53 h1) (ev_54 h2) h3 (fun _ => h4), h5⟩
  · exact ⟨D2, 1, 6, by omega, by omega, lw_2 q0 e0 q1 e1 q2 e2 hc (wr_53_0 h1) (ev_54 h2) h3 (fun z => absurd z (by decide)), h4⟩
  · exact absurd rfl hz
  · exact ⟨D2, 1, 6, by omega, by omega, lw_2 q0 e0 q1 e1 q2 e2 hc (wr_53_2 h1) (ev_54 h2) h3 (fun z => absurd z (by decide)), h4⟩
theorem cs_3 (hop : in_wr (hmf 0 0 1) k (fn_57 v1 D) (fn_60 v1)) (q0 : ¬ (i < 0 ∨ n ≤ i.toNatClampNeg)) (e0 : xs i.toNatClampNeg = v0) (q1 : ¬ ((i + 1) < 0 ∨ n ≤ (i + 1).toNatClampNeg)) (e1 : xs (i + 1).toNatClampNeg = v1) (hc : v0 &&& 31 = 3) : cs_to n xs i k D := by
  rcases in_wr_cases hop with ⟨y, D1, D2, h1, h2, h3, h4, h5⟩ | ⟨hz, y, D1, b, D2, h1, h2, h3, h4⟩ | ⟨hz, y, D1, b, D2, h1, h2, h3, h4⟩ | ⟨hz, y, D1, b, D2, h1, h2, h3, h4⟩
  · exact ⟨D2, 0, 0, by omega, by omega, lw_3 q0 e0 q1 e1 hc (wr_58 h1) (ev_60 h2) h3 (fun _ => h4), h5⟩
  · exact absurd rfl hz
  · exact absurd rfl hz
  · exact ⟨D2, 1, 6, by omega, by omega, lw_3 q0 e0 q1 e1 hc (wr_58_2 h1) (ev_60 h2) h3 (fun z => absurd z (by decide)), h4⟩
theorem cs_4 (hop : in_wr (hmf 2 0 1) k (fn_61 v1 v2 D) (fn_63 v1 v2)) (q0 : ¬ (i < 0 ∨ n ≤ i.toNatClampNeg)) (e0 : xs i.toNatClampNeg = v0) (q1 : ¬ ((i + 1) < 0 ∨ n ≤ (i + 1).toNatClampNeg)) (e1 : xs (i + 1).toNatClampNeg = v1) (q2 : ¬ ((i + 2) < 0 ∨ n ≤ (i + 2).toNatClampNeg)) (e2 : xs (i + 2).toNatClampNeg = v2) (hc : v0 &&& 31 = 4) : cs_to n xs i k D := by
  rcases in_wr_cases hop with ⟨y, D1, D2, h1, h2, h3, h4, h5⟩ | ⟨hz, y, D1, b, D2, h1, h2, h3, h4⟩ | ⟨hz, y, D1, b, D2, h1, h2, h3, h4⟩ | ⟨hz, y, D1, b, D2, h1, h2, h3, h4⟩
  · exact ⟨D2, 0, 0, by omega, by omega, lw_4 q0 e0 q1 e1 q2 e2 hc (wr_62 h1) (ev_63 h2) h3 (fun _ => h4), h5⟩
  · exact ⟨D2, 1, 6, by omega, by omega, lw_4 q0 e0 q1 e1 q2 e2 hc (wr_62_0 h1) (ev_63 h2) h3 (fun z => absurd z (by decide)), h4⟩
  · exact absurd rfl hz
  · exact ⟨D2, 1, 6, by omega, by omega, lw_4 q0 e0 q1 e1 q2 e2 hc (wr_62_2 h1) (ev_63 h2) h3 (fun z => absurd z (by decide)), h4⟩
theorem cs_5 (hop : in_wr (hmf 1 2 0) k (fn_66 v1 D) (fn_70 v1)) (q0 : ¬ (i < 0 ∨ n ≤ i.toNatClampNeg)) (e0 : xs i.toNatClampNeg = v0) (q1 : ¬ ((i + 1) < 0 ∨ n ≤ (i + 1).toNatClampNeg)) (e1 : xs (i + 1).toNatClampNeg = v1) (hc : v0 &&& 31 = 5) : cs_to n xs i k D := by
  rcases in_wr_cases hop with ⟨y, D1, D2, h1, h2, h3, h4, h5⟩ | ⟨hz, y, D1, b, D2, h1, h2, h3, h4⟩ | ⟨hz, y, D1, b, D2, h1, h2, h3, h4⟩ | ⟨hz, y, D1, b, D2, h1, h2, h3, h4⟩
  · exact ⟨D2, 0, 0, by omega, by omega, lw_5 q0 e0 q1 e1 hc (wr_67 h1) (ev_70 h2) h3 (fun _ => h4), h5⟩
  · exact ⟨D2, 1, 6, by omega, by omega, lw_5 q0 e0 q1 e1 hc (wr_67_0 h1) (ev_70 h2) h3 (fun z => absurd z (by decide)), h4⟩
  · exact ⟨D2, 1, 6, by omega, by omega, lw_5 q0 e0 q1 e1 hc (wr_67_1 h1) (ev_70 h2) h3 (fun z => absurd z (by decide)), h4⟩
  · exact absurd rfl hz
theorem cs_6 (hop : in_wr (hmf 1 0 0) k (fn_81 v1 D) (fn_90 v1)) (q0 : ¬ (i < 0 ∨ n ≤ i.toNatClampNeg)) (e0 : xs i.toNatClampNeg = v0) (q1 : ¬ ((i + 1) < 0 ∨ n ≤ (i + 1).toNatClampNeg)) (e1 : xs (i + 1).toNatClampNeg = v1) (hc : v0 &&& 31 = 6) : cs_to n xs i k D := by
  rcases in_wr_cases hop with ⟨y, D1, D2, h1, h2, h3, h4, h5⟩ | ⟨hz, y, D1, b, D2, h1, h2, h3, h4⟩ | ⟨hz, y, D1, b, D2, h1, h2, h3, h4⟩ | ⟨hz, y, D1, b, D2, h1, h2, h3, h4⟩
  · exact ⟨D2, 0, 0, by omega, by omega, lw_6 q0 e0 q1 e1 hc (wr_82 h1) (ev_90 h2) h3 (fun _ => h4), h5⟩
  · exact ⟨D2, 1, 6, by omega, by omega, lw_6 q0 e0 q1 e1 hc (wr_82_0 h1) (ev_90 h2) h3 (fun z => absurd z (by decide)), h4⟩
  · exact absurd rfl hz
  · exact absurd rfl hz
theorem cs_7 (hop : in_wr (hmf 0 0 1) k (fn_93 v1 D) (fn_95 v1)) (q0 : ¬ (i < 0 ∨ n ≤ i.toNatClampNeg)) (e0 : xs i.toNatClampNeg = v0) (q1 : ¬ ((i + 1) < 0 ∨ n ≤ (i + 1).toNatClampNeg)) (e1 : xs (i + 1).toNatClampNeg = v1) (hc : v0 &&& 31 = 7) : cs_to n xs i k D := by
  rcases in_wr_cases hop with ⟨y, D1, D2, h1, h2, h3, h4, h5⟩ | ⟨hz, y, D1, b, D2, h1, h2, h3, h4⟩ | ⟨hz, y, D1, b, D2, h1, h2, h3, h4⟩ | ⟨hz, y, D1, b, D2, h1, h2, h3, h4⟩
  · exact ⟨D2, 0, 0, by omega, by omega, lw_7 q0 e0 q1 e1 hc (wr_94 h1) (ev_95 h2) h3 (fun _ => h4), h5⟩
  · exact absurd rfl hz
  · exact absurd rfl hz
  · exact ⟨D2, 1, 6, by omega, by omega, lw_7 q0 e0 q1 e1 hc (wr_94_2 h1) (ev_95 h2) h3 (fun z => absurd z (by decide)), h4⟩
theorem cs_8 (hop : in_wr (hmf 1 2 0) k (fn_98 v1 D) (fn_100 v1)) (q0 : ¬ (i < 0 ∨ n ≤ i.toNatClampNeg)) (e0 : xs i.toNatClampNeg = v0) (q1 : ¬ ((i + 1) < 0 ∨ n ≤ (i + 1).toNatClampNeg)) (e1 : xs (i + 1).toNatClampNeg = v1) (hc : v0 &&& 31 = 8) : cs_to n xs i k D := by
  rcases in_wr_cases hop with ⟨y, D1, D2, h1, h2, h3, h4, h5⟩ | ⟨hz, y, D1, b, D2, h1, h2, h3, h4⟩ | ⟨hz, y, D1, b, D2, h1, h2, h3, h4⟩ | ⟨hz, y, D1, b, D2, h1, h2, h3, h4⟩
  · exact ⟨D2, 0, 0, by omega, by omega, lw_8 q0 e0 q1 e1 hc (wr_99 h1) (ev_100 h2) h3 (fun _ => h4), h5⟩
  · exact ⟨D2, 1, 6, by omega, by omega, lw_8 q0 e0 q1 e1 hc (wr_99_0 h1) (ev_100 h2) h3 (fun z => absurd z (by decide)), h4⟩
  · exact ⟨D2, 1, 6, by omega, by omega, lw_8 q0 e0 q1 e1 hc (wr_99_1 h1) (ev_100 h2) h3 (fun z => absurd z (by decide)), h4⟩
  · exact absurd rfl hz
theorem cs_11 (hop : in_wr (hmf 1 0 0) k (fn_136 D) (fn_138)) (q0 : ¬ (i < 0 ∨ n ≤ i.toNatClampNeg)) (e0 : xs i.toNatClampNeg = v0) (hc : v0 &&& 31 = 11) : cs_to n xs i k D := by
  rcases in_wr_cases hop with ⟨y, D1, D2, h1, h2, h3, h4, h5⟩ | ⟨hz, y, D1, b, D2, h1, h2, h3, h4⟩ | ⟨hz, y, D1, b, D2, h1, h2, h3, h4⟩ | ⟨hz, y, D1, b, D2, h1, h2, h3, h4⟩
  · exact ⟨D2, 0, 0, by omega, by omega, lw_11 q0 e0 hc (wr_137 h1) (ev_138 h2) h3 (fun _ => h4), h5⟩
  · exact ⟨D2, 1, 6, by omega, by omega, lw_11 q0 e0 hc (wr_137_0 h1) (ev_138 h2) h3 (fun z => absurd z (by decide)), h4⟩
  · exact absurd rfl hz
  · exact absurd rfl hz
theorem cs_12 (hop : in_wr (hmf 0 1 0) k (fn_142 D) (fn_144)) (q0 : ¬ (i < 0 ∨ n ≤ i.toNatClampNeg)) (e0 : xs i.toNatClampNeg = v0) (hc : v0 &&& 31 = 12) : cs_to n xs i k D := by
  rcases in_wr_cases hop with ⟨y, D1, D2, h1, h2, h3, h4, h5⟩ | ⟨hz, y, D1, b, D2, h1, h2, h3, h4⟩ | ⟨hz, y, D1, b, D2, h1, h2, h3, h4⟩ | ⟨hz, y, D1, b, D2, h1, h2, h3, h4⟩
  · exact ⟨D2, 0, 0, by omega, by omega, lw_12 q0 e0 hc (wr_143 h1) (ev_144 h2) h3 (fun _ => h4), h5⟩
  · exact absurd rfl hz
  · exact ⟨D2, 1, 6, by omega, by omega, lw_12 q0 e0 hc (wr_143_1 h1) (ev_144 h2) h3 (fun z => absurd z (by decide)), h4⟩
  · exact absurd rfl hz
theorem cs_13 (hop : in_wr (hmf 1 0 0) k (fn_146 v1 D) (fn_149 v1)) (q0 : ¬ (i < 0 ∨ n ≤ i.toNatClampNeg)) (e0 : xs i.toNatClampNeg = v0) (q1 : ¬ ((i + 1) < 0 ∨ n ≤ (i + 1).toNatClampNeg)) (e1 : xs (i + 1).toNatClampNeg = v1) (hc : v0 &&& 31 = 13) : cs_to n xs i k D := by
  rcases in_wr_cases hop with ⟨y, D1, D2, h1, h2, h3, h4, h5⟩ | ⟨hz, y, D1, b, D2, h1, h2, h3, h4⟩ | ⟨hz, y, D1, b, D2, h1, h2, h3, h4⟩ | ⟨hz, y, D1, b, D2, h1, h2, h3, h4⟩
  · exact ⟨D2, 0, 0, by omega, by omega, lw_13 q0 e0 q1 e1 hc (wr_147 h1) (ev_149 h2) h3 (fun _ => h4), h5⟩
  · exact ⟨D2, 1, 6, by omega, by omega, lw_13 q0 e0 q1 e1 hc (wr_147_0 h1) (ev_149 h2) h3 (fun z => absurd z (by decide)), h4⟩
  · exact absurd rfl hz
  · exact absurd rfl hz
theorem cs_14 (hop : in_wr (hmf 1 2 0) k (fn_151 v1 D) (fn_153 v1)) (q0 : ¬ (i < 0 ∨ n ≤ i.toNatClampNeg)) (e0 : xs i.toNatClampNeg = v0) (q1 : ¬ ((i + 1) < 0 ∨ n ≤ (i + 1).toNatClampNeg)) (e1 : xs (i + 1).toNatClampNeg = v1) (hc : v0 &&& 31 = 14) : cs_to n xs i k D := by
  rcases in_wr_cases hop with ⟨y, D1, D2, h1, h2, h3, h4, h5⟩ | ⟨hz, y, D1, b, D2, h1, h2, h3, h4⟩ | ⟨hz, y, D1, b, D2, h1, h2, h3, h4⟩ | ⟨hz, y, D1, b, D2, h1, h2, h3, h4⟩
  · exact ⟨D2, 0, 0, by omega, by omega, lw_14 q0 e0 q1 e1 hc (wr_152 h1) (ev_153 h2) h3 (fun _ => h4), h5⟩
  · exact ⟨D2, 1, 6, by omega, by omega, lw_14 q0 e0 q1 e1 hc (wr_152_0 h1) (ev_153 h2) h3 (fun z => absurd z (by decide)), h4⟩
  · exact ⟨D2, 1, 6, by omega, by omega, lw_14 q0 e0 q1 e1 hc (wr_152_1 h1) (ev_153 h2) h3 (fun z => absurd z (by decide)), h4⟩
  · exact absurd rfl hz
theorem cs_15 (hop : in_wr (hmf 2 0 1) k (fn_156 v1 v2 D) (fn_160 v1 v2)) (q0 : ¬ (i < 0 ∨ n ≤ i.toNatClampNeg)) (e0 : xs i.toNatClampNeg = v0) (q1 : ¬ ((i + 1) < 0 ∨ n ≤ (i + 1).toNatClampNeg)) (e1 : xs (i + 1).toNatClampNeg = v1) (q2 : ¬ ((i + 2) < 0 ∨ n ≤ (i + 2).toNatClampNeg)) (e2 : xs (i + 2).toNatClampNeg = v2) (hc : v0 &&& 31 = 15) : cs_to n xs i k D := by
  rcases in_wr_cases hop with ⟨y, D1, D2, h1, h2, h3, h4, h5⟩ | ⟨hz, y, D1, b, D2, h1, h2, h3, h4⟩ | ⟨hz, y, D1, b, D2, h1, h2, h3, h4⟩ | ⟨hz, y, D1, b, D2, h1, h2, h3, h4⟩
  · exact ⟨D2, 0, 0, by omega, by omega, lw_15 q0 e0 q1 e1 q2 e2 hc (wr_157 h1) (ev_160 h2) h3 (fun _ => h4), h5⟩
  · exact ⟨D2, 1, 6, by omega, by omega, lw_15 q0 e0 q1 e1 q2 e2 hc (wr_157_0 h1) (ev_160 h2) h3 (fun z => absurd z (by decide)), h4⟩
  · exact absurd rfl hz
  · exact ⟨D2, 1, 6, by omega, by omega, lw_15 q0 e0 q1 e1 q2 e2 hc (wr_157_2 h1) (ev_160 h2) h3 (fun z => absurd z (by decide)), h4⟩
theorem cs_16 (hop : in_wr (hmf 1 0 0) k (fn_163 v1 v2 D) (fn_166 v1 v2)) (q0 : ¬ (i < 0 ∨ n ≤ i.toNatClampNeg)) (e0 : xs i.toNatClampNeg = v0) (q1 : ¬ ((i + 1) < 0 ∨ n ≤ (i + 1).toNatClampNeg)) (e1 : xs (i + 1).toNatClampNeg = v1) (q2 : ¬ ((i + 2) < 0 ∨ n ≤ (i + 2).toNatClampNeg)) (e2 : xs (i + 2).toNatClampNeg = v2) (hc : v0 &&& 31 = 16) : cs_to n xs i k D := by
  rcases in_wr_cases hop with ⟨y, D1, D2, h1, h2, h3, h4, h5⟩ | ⟨hz, y, D1, b, D2, h1, h2, h3, h4⟩ | ⟨hz, y, D1, b, D2, h1, h2, h3, h4⟩ | ⟨hz, y, D1, b, D2, h1, h2, h3, h4⟩
  · exact ⟨D2, 0, 0, by omega, by omega, lw_16 q0 e0 q1 e1 q2 e2 hc (wr_164 h1) (ev_166 h2) h3 (fun _ => h4), h5⟩
  · exact ⟨D2, 1, 6, by omega, by omega, lw_16 q0 e0 q1 e1 q2 e2 hc (wr_164_0 h1) (ev_166 h2) h3 (fun z => absurd z (by decide)), h4⟩
  · exact absurd rfl hz
  · exact absurd rfl hz
theorem cs_17 (hop : in_wr (hmf 2 0 1) k (fn_168 v1 v2 D) (fn_171 v1 v2)) (q0 : ¬ (i < 0 ∨ n ≤ i.toNatClampNeg)) (e0 : xs i.toNatClampNeg = v0) (q1 : ¬ ((i + 1) < 0 ∨ n ≤ (i + 1).toNatClampNeg)) (e1 : xs (i + 1).toNatClampNeg = v1) (q2 : ¬ ((i + 2) < 0 ∨ n ≤ (i + 2).toNatClampNeg)) (e2 : xs (i + 2).toNatClampNeg = v2) (hc : v0 &&& 31 = 17) : cs_to n xs i k D := by
  rcases in_wr_cases hop with ⟨y, D1, D2, h1, h2, h3, h4, h5⟩ | ⟨hz, y, D1, b, D2, h1, h2, h3, h4⟩ | ⟨hz, y, D1, b, D2, h1, h2, h3, h4⟩ | ⟨hz, y, D1, b, D2, h1, h2, h3, h4⟩
  · exact ⟨D2, 0, 0, by omega, by omega, lw_17 q0 e0 q1 e1 q2 e2 hc (wr_169 h1) (ev_171 h2) h3 (fun _ => h4), h5⟩
  · exact ⟨D2, 1, 6, by omega, by omega, lw_17 q0 e0 q1 e1 q2 e2 hc (wr_169_0 h1) (ev_171 h2) h3 (fun z => absurd z (by decide)), h4⟩
  · exact absurd rfl hz
  · exact ⟨D2, 1, 6, by omega, by omega, lw_17 q0 e0 q1 e1 q2 e2 hc (wr_169_2 h1) (ev_171 h2) h3 (fun z => absurd z (by decide)), h4⟩
theorem cs_18 (hop : in_wr (hmf 1 0 0) k (fn_172 v1 D) (fn_174 v1)) (q0 : ¬ (i < 0 ∨ n ≤ i.toNatClampNeg)) (e0 : xs i.toNatClampNeg = v0) (q1 : ¬ ((i + 1) < 0 ∨ n ≤ (i + 1).toNatClampNeg)) (e1 : xs (i + 1).toNatClampNeg = v1) (hc : v0 &&& 31 = 18) : cs_to n xs i k D := by
  rcases in_wr_cases hop with ⟨y, D1, D2, h1, h2, h3, h4, h5⟩ | ⟨hz, y, D1, b, D2, h1, h2, h3, h4⟩ | ⟨hz, y, D1, b, D2, h1, h2, h3, h4⟩ | ⟨hz, y, D1, b, D2, h1, h2, h3, h4⟩
  · exact ⟨D2, 0, 0, by omega, by omega, lw_18 q0 e0 q1 e1 hc (wr_173 h1) (ev_174 h2) h3 (fun _ => h4), h5⟩
  · exact ⟨D2, 1, 6, by omega, by omega, lw_18 q0 e0 q1 e1 hc (wr_173_0 h1) (ev_174 h2) h3 (fun z => absurd z (by decide)), h4⟩
  · exact absurd rfl hz
  · exact absurd rfl hz
theorem cs_19 (hop : in_wr (hmf 1 0 0) k (fn_178 v1 v2 D) (fn_181 v1 v2)) (q0 : ¬ (i < 0 ∨ n ≤ i.toNatClampNeg)) (e0 : xs i.toNatClampNeg = v0) (q1 : ¬ ((i + 1) < 0 ∨ n ≤ (i + 1).toNatClampNeg)) (e1 : xs (i + 1).toNatClampNeg = v1) (q2 : ¬ ((i + 2) < 0 ∨ n ≤ (i + 2).toNatClampNeg)) (e2 : xs (i + 2).toNatClampNeg = v2) (hc : v0 &&& 31 = 19) : cs_to n xs i k D := by
  rcases in_wr_cases hop with ⟨y, D1, D2, h1, h2, h3, h4, h5⟩ | ⟨hz, y, D1, b, D2, h1, h2, h3, h4⟩ | ⟨hz, y, D1, b, D2, h1, h2, h3, h4⟩ | ⟨hz, y, D1, b, D2, h1, h2, h3, h4⟩
  · exact ⟨D2, 0, 0, by omega, by omega, lw_19 q0 e0 q1 e1 q2 e2 hc (wr_179 h1) (ev_181 h2) h3 (fun _ => h4), h5⟩
  · exact ⟨D2, 1, 6, by omega, by omega, lw_19 q0 e0 q1 e1 q2 e2 hc (wr_179_0 h1) (ev_181 h2) h3 (fun z => absurd z (by decide)), h4⟩
  · exact absurd rfl hz
  · exact absurd rfl hz
theorem cs_20 (hop : in_wr (hmf 1 0 0) k (fn_183 v1 D) (fn_186 v1)) (q0 : ¬ (i < 0 ∨ n ≤ i.toNatClampNeg)) (e0 : xs i.toNatClampNeg = v0) (q1 : ¬ ((i + 1) < 0 ∨ n ≤ (i + 1).toNatClampNeg)) (e1 : xs (i + 1).toNatClampNeg = v1) (hc : v0 &&& 31 = 20) : cs_to n xs i k D := by
  rcases in_wr_cases hop with ⟨y, D1, D2, h1, h2, h3, h4, h5⟩ | ⟨hz, y, D1, b, D2, h1, h2, h3, h4⟩ | ⟨hz, y, D1, b, D2, h1, h2, h3, h4⟩ | ⟨hz, y, D1, b, D2, h1, h2, h3, h4⟩
  · exact ⟨D2, 0, 0, by omega, by omega, lw_20 q0 e0 q1 e1 hc (wr_184 h1) (ev_186 h2) h3 (fun _ => h4), h5⟩
  · exact ⟨D2, 1, 6, by omega, by omega, lw_20 q0 e0 q1 e1 hc (wr_184_0 h1) (ev_186 h2) h3 (fun z => absurd z (by decide)), h4⟩
  · exact absurd rfl hz
  · exact absurd rfl hz
theorem cs_21 (hop : in_wr (hmf 1 0 0) k (fn_197 v1 D) (fn_206 v1)) (q0 : ¬ (i < 0 ∨ n ≤ i.toNatClampNeg)) (e0 : xs i.toNatClampNeg = v0) (q1 : ¬ ((i + 1) < 0 ∨ n ≤ (i + 1).toNatClampNeg)) (e1 : xs (i + 1).toNatClampNeg = v1) (hc : v0 &&& 31 = 21) : cs_to n xs i k D := by
  rcases in_wr_cases hop with ⟨y, D1, D2, h1, h2, h3, h4, h5⟩ | ⟨hz, y, D1, b, D2, h1, h2, h3, h4⟩ | ⟨hz, y, D1, b, D2, h1, h2, h3, h4⟩ | ⟨hz, y, D1, b, D2, h1, h2, h3, h4⟩
  · exact ⟨D2, 0, 0, by omega, by omega, lw_21 q0 e0 q1 e1 hc (wr_198 h1) (ev_206 h2) h3 (fun _ => h4), h5⟩
  · exact ⟨D2, 1, 6, by omega, by omega, lw_21 q0 e0 q1 e1 hc (wr_198_0 h1) (ev_206 h2) h3 (fun z => absurd z (by decide)), h4⟩
  · exact absurd rfl hz
  · exact absurd rfl hz
theorem cs_23 (hop : in_wr (hmf 2 0 1) k (fn_215 v1 v2 v3 D) (fn_219 v1 v2 v3)) (q0 : ¬ (i < 0 ∨ n ≤ i.toNatClampNeg)) (e0 : xs i.toNatClampNeg = v0) (q1 : ¬ ((i + 1) < 0 ∨ n ≤ (i + 1).toNatClampNeg)) (e1 : xs (i + 1).toNatClampNeg = v1) (q2 : ¬ ((i + 2) < 0 ∨ n ≤ (i + 2).toNatClampNeg)) (e2 : xs (i + 2).toNatClampNeg = v2) (q3 : ¬ ((i + 3) < 0 ∨ n ≤ (i + 3).toNatClampNeg)) (e3 : xs (i + 3).toNatClampNeg = v3) (hc : v0 &&& 31 = 23) : cs_to n xs i k D := by
  rcases in_wr_cases hop with ⟨y, D1, D2, h1, h2, h3, h4, h5⟩ | ⟨hz, y, D1, b, D2, h1, h2, h3, h4⟩ | ⟨hz, y, D1, b, D2, h1, h2, h3, h4⟩ | ⟨hz, y, D1, b, D2, h1, h2, h3, h4⟩
  · exact ⟨D2, 0, 0, by omega, by omega, lw_23 q0 e0 q1 e1 q2 e2 q3 e3 hc (wr_216 h1) (ev_219 h2) h3 (fun _ => h4), h5⟩
  · exact ⟨D2, 1, 6, by omega, by omega, lw_23 q0 e0 q1 e1 q2 e2 q3 e3 hc (wr_216_0 h1) (ev_219 h2) h3 (fun z => absurd z (by decide)), h4⟩
  · exact absurd rfl hz
  · exact ⟨D2, 1, 6, by omega, by omega, lw_23 q0 e0 q1 e1 q2 e2 q3 e3 hc (wr_216_2 h1) (ev_219 h2) h3 (fun z => absurd z (by decide)), h4⟩
theorem cs_24 (hop : in_wr (hmf 2 0 1) k (fn_221 v1 v2 D) (fn_223 v1 v2)) (q0 : ¬ (i < 0 ∨ n ≤ i.toNatClampNeg)) (e0 : xs i.toNatClampNeg = v0) (q1 : ¬ ((i + 1) < 0 ∨ n ≤ (i + 1).toNatClampNeg)) (e1 : xs (i + 1).toNatClampNeg = v1) (q2 : ¬ ((i + 2) < 0 ∨ n ≤ (i + 2).toNatClampNeg)) (e2 : xs (i + 2).toNatClampNeg = v2) (hc : v0 &&& 31 = 24) : cs_to n xs i k D := by
  rcases in_wr_cases hop with ⟨y, D1, D2, h1, h2, h3, h4, h5⟩ | ⟨hz, y, D1, b, D2, h1, h2, h3, h4⟩ | ⟨hz, y, D1, b, D2, h1, h2, h3, h4⟩ | ⟨hz, y, D1, b, D2, h1, h2, h3, h4⟩
  · exact ⟨D2, 0, 0, by omega, by omega, lw_24 q0 e0 q1 e1 q2 e2 hc (wr_222 h1) (ev_223 h2) h3 (fun _ => h4), h5⟩
  · exact ⟨D2, 1, 6, by omega, by omega, lw_24 q0 e0 q1 e1 q2 e2 hc (wr_222_0 h1) (ev_223 h2) h3 (fun z => absurd z (by decide)), h4⟩
  · exact absurd rfl hz
  · exact ⟨D2, 1, 6, by omega, by omega, lw_24 q0 e0 q1 e1 q2 e2 hc (wr_222_2 h1) (ev_223 h2) h3 (fun z => absurd z (by decide)), h4⟩
theorem cs_25 (hop : in_wr (hmf 1 0 0) k (fn_225 v1 D) (fn_227 v1)) (q0 : ¬ (i < 0 ∨ n ≤ i.toNatClampNeg)) (e0 : xs i.toNatClampNeg = v0) (q1 : ¬ ((i + 1) < 0 ∨ n ≤ (i + 1).toNatClampNeg)) (e1 : xs (i + 1).toNatClampNeg = v1) (hc : v0 &&& 31 = 25) : cs_to n xs i k D := by
  rcases in_wr_cases hop with ⟨y, D1, D2, h1, h2, h3, h4, h5⟩ | ⟨hz, y, D1, b, D2, h1, h2, h3, h4⟩ | ⟨hz, y, D1, b, D2, h1, h2, h3, h4⟩ | ⟨hz, y, D1, b, D2, h1, h2, h3, h4⟩
  · exact ⟨D2, 0, 0, by omega, by omega, lw_25 q0 e0 q1 e1 hc (wr_226 h1) (ev_227 h2) h3 (fun _ => h4), h5⟩
  · exact ⟨D2, 1, 6, by omega, by omega, lw_25 q0 e0 q1 e1 hc (wr_226_0 h1) (ev_227 h2) h3 (fun z => absurd z (by decide)), h4⟩
  · exact absurd rfl hz
  · exact absurd rfl hz
theorem cs_26 (hop : in_wr (hmf 0 0 1) k (fn_229 v1 D) (fn_231 v1)) (q0 : ¬ (i < 0 ∨ n ≤ i.toNatClampNeg)) (e0 : xs i.toNatClampNeg = v0) (q1 : ¬ ((i + 1) < 0 ∨ n ≤ (i + 1).toNatClampNeg)) (e1 : xs (i + 1).toNatClampNeg = v1) (hc : v0 &&& 31 = 26) : cs_to n xs i k D := by
  rcases in_wr_cases hop with ⟨y, D1, D2, h1, h2, h3, h4, h5⟩ | ⟨hz, y, D1, b, D2, h1, h2, h3, h4⟩ | ⟨hz, y, D1, b, D2, h1, h2, h3, h4⟩ | ⟨hz, y, D1, b, D2, h1, h2, h3, h4⟩
  · exact ⟨D2, 0, 0, by omega, by omega, lw_26 q0 e0 q1 e1 hc (wr_230 h1) (ev_231 h2) h3 (fun _ => h4), h5⟩
  · exact absurd rfl hz
  · exact absurd rfl hz
  · exact ⟨D2, 1, 6, by omega, by omega, lw_26 q0 e0 q1 e1 hc (wr_230_2 h1) (ev_231 h2) h3 (fun z => absurd z (by decide)), h4⟩
theorem cs_9 (hop : in_w2 k (fn_102 D) fn_103) (q0 : ¬ (i < 0 ∨ n ≤ i.toNatClampNeg)) (e0 : xs i.toNatClampNeg = v0) (hc : v0 &&& 31 = 9) : cs_to n xs i k D := by
  obtain ⟨y, D1, D2, h1, h2, h3⟩ := hop
  exact ⟨D2, 0, 0, by omega, by omega, lw_9 q0 e0 hc (ev_102 h1) (ev_103 h2), h3⟩
theorem cs_10 (hop : in_w2 k (fn_118 D) fn_127) (q0 : ¬ (i < 0 ∨ n ≤ i.toNatClampNeg)) (e0 : xs i.toNatClampNeg = v0) (hc : v0 &&& 31 = 10) : cs_to n xs i k D := by
  obtain ⟨y, D1, D2, h1, h2, h3⟩ := hop
  exact ⟨D2, 0, 0, by omega, by omega, lw_10 q0 e0 hc (ev_118 h1) (ev_127 h2), h3⟩
theorem cs_27 (hop : in_w2 k (fn_234 D) fn_236) (q0 : ¬ (i < 0 ∨ n ≤ i.toNatClampNeg)) (e0 : xs i.toNatClampNeg = v0) (hc : v0 &&& 31 = 27) : cs_to n xs i k D := by
  obtain ⟨y, D1, D2, h1, h2, h3⟩ := hop
  exact ⟨D2, 0, 0, by omega, by omega, lw_27 q0 e0 hc (ev_234 h1) (ev_236 h2), h3⟩
theorem cs_22 (hi : in_ok k D) (q0 : ¬ (i < 0 ∨ n ≤ i.toNatClampNeg)) (e0 : xs i.toNatClampNeg = v0) (hc : v0 &&& 31 = 22) : cs_to n xs i k D := by
  obtain ⟨y, D2, h1, h2, h3, h4⟩ := op_22 hi
  unfold mp_ok at h3
  simp only [Bool.and_eq_true, decide_eq_true_eq] at h3
  exact ⟨D2, 0, 0, by omega, by omega, lw_22 q0 e0 hc (ev_208 h1) (ev_209 h2) h3.2.1 h3.2.2, h4⟩
theorem cs_28 (hi : in_ok k D) (q0 : ¬ (i < 0 ∨ n ≤ i.toNatClampNeg)) (e0 : xs i.toNatClampNeg = v0) (q1 : ¬ ((i + 1) < 0 ∨ n ≤ (i + 1).toNatClampNeg)) (e1 : xs (i + 1).toNatClampNeg = v1) (hc : v0 &&& 31 = 28) : cs_to n xs i k D := by
  obtain ⟨y, D1, D2, h1, h2, h3⟩ := op_28 (z := if v1 = 0 then 0 else 1) (by split <;> simp) hi
  exact ⟨D2, 0, 0, by omega, by omega, lw_28 q0 e0 q1 e1 hc rfl (ev_238 h1) (ev_239 h2), h3⟩
end VC

set_option maxHeartbeats 2000000 in
theorem step_ok (h10 : ∀ k D, in_ok k D → in_w2 k (fn_118 D) fn_127) (h11 : ∀ k D, in_ok k D → in_wr (hmf 1 0 0) k (fn_136 D) fn_138) (h21 : ∀ k D a, k < 512 → in_ok k D → in_wr (hmf 1 0 0) k (fn_197 a D) (fn_206 a))
    (k n : Nat) (xs : Nat → Int32) (D : am_DD) (hi : in_ok k D) (hn : n ≤ 2048) (h4 : 4 * k + 4 ≤ n) : cs_to n xs (Int32.ofNat (4 * k)) k D := by
  have q0 : ¬ (Int32.ofNat (4 * k) < 0 ∨ n ≤ (Int32.ofNat (4 * k)).toNatClampNeg) := n_bad (by omega) (by omega)
  have x1 : Int32.ofNat (4 * k) + 1 = Int32.ofNat (4 * k + 1) := nI_up _
  have x2 : Int32.ofNat (4 * k) + 2 = Int32.ofNat (4 * k + 2) := n_add _ 2
  have x3 : Int32.ofNat (4 * k) + 3 = Int32.ofNat (4 * k + 3) := n_add _ 3
  have q1 : ¬ (Int32.ofNat (4 * k) + 1 < 0 ∨ n ≤ (Int32.ofNat (4 * k) + 1).toNatClampNeg) := by rw [x1]; exact n_bad (by omega) (by omega)
  have q2 : ¬ (Int32.ofNat (4 * k) + 2 < 0 ∨ n ≤ (Int32.ofNat (4 * k) + 2).toNatClampNeg) := by rw [x2]; exact n_bad (by omega) (by omega)
  have q3 : ¬ (Int32.ofNat (4 * k) + 3 < 0 ∨ n ≤ (Int32.ofNat (4 * k) + 3).toNatClampNeg) := by rw [x3]; exact n_bad (by omega) (by omega)
  have hv := ay_and31 (xs (Int32.ofNat (4 * k)).toNatClampNeg)
  have e : ∀ c : Nat, c < 32 → (xs (Int32.ofNat (4 * k)).toNatClampNeg &&& 31).toInt = (c : Int) → xs (Int32.ofNat (4 * k)).toNatClampNeg &&& 31 = Int32.ofNat c := fun c hc h => (i_eq _ _).mpr (by rw [h, t_ofNat (by omega)])
  by_cases big : 28 < (xs (Int32.ofNat (4 * k)).toNatClampNeg &&& 31).toInt
  · exact ⟨D, 0, 0, by omega, by omega, lw_none q0 rfl big, in_ok.agr (Nat.le_succ k) (in_agr.rf D) hi⟩
  obtain ⟨c, hc0, hc⟩ : ∃ c : Nat, c ≤ 28 ∧ (xs (Int32.ofNat (4 * k)).toNatClampNeg &&& 31).toInt = (c : Int) := ⟨(xs (Int32.ofNat (4 * k)).toNatClampNeg &&& 31).toInt.toNat, by omega, by omega⟩
  have hcc := e c (by omega) hc
  obtain rfl | rfl | rfl | rfl | rfl | rfl | rfl | rfl | rfl | rfl | rfl | rfl | rfl | rfl | rfl | rfl | rfl | rfl | rfl | rfl | rfl | rfl | rfl | rfl | rfl | rfl | rfl | rfl | rfl : c = 0 ∨ c = 1 ∨ c = 2 ∨ c = 3 ∨ c = 4 ∨ c = 5 ∨ c = 6 ∨ c = 7 ∨ c = 8 ∨ c = 9 ∨ c = 10 ∨ c = 11 ∨ c = 12 ∨ c = 13 ∨ c = 14 ∨ c = 15 ∨ c = 16 ∨ c = 17 ∨ c = 18 ∨ c = 19 ∨ c = 20 ∨ c = 21 ∨ c = 22 ∨ c = 23 ∨ c = 24 ∨ c = 25 ∨ c = 26 ∨ c = 27 ∨ c = 28 := by omega
  · exact cs_0 (op_0 _ hi) q0 rfl q1 rfl hcc
  · exact cs_1 (op_1 _ _ _ hi) q0 rfl q1 rfl q2 rfl q3 rfl hcc
  · exact cs_2 (op_2 _ _ hi) q0 rfl q1 rfl q2 rfl hcc
  · exact cs_3 (op_3 _ hi) q0 rfl q1 rfl hcc
  · exact cs_4 (op_4 _ _ hi) q0 rfl q1 rfl q2 rfl hcc
  · exact cs_5 (op_5 _ hi) q0 rfl q1 rfl hcc
  · exact cs_6 (op_6 _ hi) q0 rfl q1 rfl hcc
  · exact cs_7 (op_7 _ hi) q0 rfl q1 rfl hcc
  · exact cs_8 (op_8 _ hi) q0 rfl q1 rfl hcc
  · exact cs_9 (op_9 hi) q0 rfl hcc
  · exact cs_10 (h10 k D hi) q0 rfl hcc
  · exact cs_11 (h11 k D hi) q0 rfl hcc
  · exact cs_12 (op_12 hi) q0 rfl hcc
  · exact cs_13 (op_13 _ hi) q0 rfl q1 rfl hcc
  · exact cs_14 (op_14 _ hi) q0 rfl q1 rfl hcc
  · exact cs_15 (op_15 _ _ hi) q0 rfl q1 rfl q2 rfl hcc
  · exact cs_16 (op_16 _ _ hi) q0 rfl q1 rfl q2 rfl hcc
  · exact cs_17 (op_17 _ _ hi) q0 rfl q1 rfl q2 rfl hcc
  · exact cs_18 (op_18 _ hi) q0 rfl q1 rfl hcc
  · exact cs_19 (op_19 _ _ hi) q0 rfl q1 rfl q2 rfl hcc
  · exact cs_20 (op_20 _ hi) q0 rfl q1 rfl hcc
  · exact cs_21 (h21 k D _ (by omega) hi) q0 rfl q1 rfl hcc
  · exact cs_22 hi q0 rfl hcc
  · exact cs_23 (op_23 _ _ _ hi) q0 rfl q1 rfl q2 rfl q3 rfl hcc
  · exact cs_24 (op_24 _ _ hi) q0 rfl q1 rfl q2 rfl hcc
  · exact cs_25 (op_25 _ hi) q0 rfl q1 rfl hcc
  · exact cs_26 (op_26 _ hi) q0 rfl q1 rfl hcc
  · exact cs_27 (op_27 hi) q0 rfl hcc
  · exact cs_28 hi q0 rfl q1 rfl hcc
