/-! text, undoing, keeping, counting -/
theorem in_txt {k : Nat} {D D' : am_DD} (hi : in_ok k D) (h : ∀ a j, a ≠ 45 → a ≠ 47 → a ≠ 326 → ¬ (a = 321 ∧ j = 6) → in_scr a j = false → D' a j = D a j) (ht : tx_ok D') : in_ok (k + 1) D' := by
  obtain ⟨h1, ⟨o, c, o1, o2, o3, o4, o5, o6⟩, h3, -⟩ := hi
  refine ⟨st_mono (by omega) (st_congr (fun j _ => h 322 j (by omega) (by omega) (by omega) (by omega) (by simp [in_scr])) (fun o j ho => ?_) h1),
    ⟨o, c, o1, o2, by rw [h 56 1 (by omega) (by omega) (by omega) (by omega) (by decide)]; exact o3, by rw [h 56 2 (by omega) (by omega) (by omega) (by omega) (by decide)]; exact o4, by rw [h 321 2 (by omega) (by omega) (by omega) (by omega) (by decide)]; exact o5, fun r hr => st_mono (by omega) (st_congr (fun j _ => h 323 _ (by omega) (by omega) (by omega) (by omega) (by simp [in_scr])) (fun q j hq => ?_) (o6 r hr))⟩,
    fun t ht => ?_, ht⟩
  · have h9 := st_v_hit ho
    exact h (1 + o) j (by omega) (by omega) (by omega) (by omega) (in_scr_live _ (by omega) _)
  · have h9 := st_v_hit hq
    have h8 : (o + r) % 6 < 6 := Nat.mod_lt _ (by decide)
    exact h _ j (by omega) (by omega) (by omega) (by omega) (in_scr_runs _ (by omega) (by omega) (by omega) _)
  · rw [h 325 t (by omega) (by omega) (by omega) (by omega) (by simp [in_scr]), h 320 t (by omega) (by omega) (by omega) (by omega) (by simp [in_scr])]
    rcases h3 t ht with g | ⟨g1, g2, g3⟩
    · exact Or.inl g
    · refine Or.inr ⟨g1, g2, st_mono (by omega) (st_congr (fun j _ => h 324 _ (by omega) (by omega) (by omega) (by omega) (by simp [in_scr])) (fun q j hq => ?_) g3)⟩
      have h9 := st_v_hit hq
      exact h _ j (by omega) (by omega) (by omega) (by omega) (in_scr_runs _ (by omega) (by omega) (by omega) _)
def in_w2 (k : Nat) (C : Option (Int32 × am_DD)) (M : am_DD → Option (Int32 × am_DD)) : Prop := ∃ y D1 D2, C = some (y, D1) ∧ M D1 = some (y, D2) ∧ in_ok (k + 1) D2
theorem scr_ne {a j : Nat} (h : in_scr a j = false) : ¬ a = 329 ∧ ¬ (a = 321 ∧ j = 7) := by
  constructor
  · intro z
    subst z
    simp [in_scr] at h
  · intro z
    rw [z.1, z.2] at h
    exact absurd h (by decide)
set_option maxHeartbeats 1000000 in
theorem op_8 {k : Nat} {D : am_DD} (a : Int32) (hi : in_ok k D) : in_wr (hmf 1 2 0) k (fn_98 a D) (fn_100 a) := by
  obtain ⟨len, t1, t2, t3, t4⟩ := hi.2.2.2
  have l33 := i_lt a 33
  have l126 := i_le a 126
  rw [l_33] at l33
  rw [l_126] at l126
  by_cases h1 : rng a (33 : Int32).toInt (126 : Int32).toInt
  · have h1' : 33 ≤ a.toInt ∧ a.toInt ≤ 126 := by rw [l_33, l_126] at h1; exact h1
    have n1 : ¬ a < 33 := fun z => by have := l33.mp z; omega
    have n2 : a ≤ 126 := l126.mpr (by omega)
    by_cases h2 : len < 60
    · have q2 : (Int32.ofNat len < 60) := (n_lt (b := 60) (by omega) (by omega)).mpr h2
      have q3 : ¬ Int32.ofNat len = 60 := fun z => by have := n_inj (b := 60) (by omega) (by omega) z; omega
      refine ⟨Int32.ofNat (len + 1), 0, am_upd (am_upd D 47 len a) 45 0 (Int32.ofNat (len + 1)), ?_, Or.inl ⟨rfl, am_upd (am_upd (am_upd (am_upd (am_upd (am_upd D 47 len a) 45 0 (Int32.ofNat (len + 1))) 329 0 (Int32.ofNat (len + 1))) 321 7 0) 326 len a) 321 6 (Int32.ofNat (len + 1)), ?_, ?_, ?_, ?_⟩⟩
      · unfold fn_98 fn_96 fn_97
        simp only [if_neg n1, if_pos n2, t2, if_pos q2, if_true]
        rw [rw_put_nI h2 (by decide), u_self, u_ne (by omega), t2, nI_up]
      · have e6 : am_upd (am_upd (am_upd D 47 len a) 45 0 (Int32.ofNat (len + 1))) 329 0 (Int32.ofNat (len + 1)) 321 6 = Int32.ofNat len := by
          rw [u_ne (by omega), u_ne (by omega), u_ne (by omega), t3]
        unfold fn_100
        simp only [fn_26_b, b01_t h1, i10, not_false_eq_true, if_true, e6, if_pos q3, fn_29_0]
        have e7 : am_upd (am_upd (am_upd (am_upd D 47 len a) 45 0 (Int32.ofNat (len + 1))) 329 0 (Int32.ofNat (len + 1))) 321 7 0 321 6 = Int32.ofNat len := by rw [u_ne (by omega), e6]
        rw [e7, if_neg (n_bad (by decide) h2), c_ofNat (by omega), u_self, u_ne (by omega), e7, nI_up]
      · rw [u_ne (by omega), u_ne (by omega), u_self]
      · rw [u_ne (by omega), u_ne (by omega), u_ne (by omega), u_self]
      · refine in_txt hi (fun a' j z1 z2 z3 z4 z5 => ?_) ⟨len + 1, by omega, ?_, by rw [u_self], fun j hj => ?_⟩
        · have z6 := scr_ne z5
          rw [u_ne (by omega), u_ne (by omega), u_ne (by omega), u_ne (by omega), u_ne (by omega), u_ne (by omega)]
        · rw [u_ne (by omega), u_ne (by omega), u_ne (by omega), u_ne (by omega), u_self]
        · by_cases z : j = len
          · rw [z, u_ne (by omega), u_ne (by omega), u_ne (by omega), u_ne (by omega), u_ne (by omega), u_self, u_ne (by omega), u_self]
            exact ⟨rfl, h1'⟩
          · rw [u_ne (by omega), u_ne (by omega), u_ne (by omega), u_ne (by omega), u_ne (by omega), u_ne (by omega), u_ne (by omega), u_ne (by omega), u_ne (by omega), u_ne (by omega), u_ne (by omega), u_ne (by omega)]
            exact t4 j (by omega)
    · have e60 : len = 60 := by omega
      subst e60
      refine in_no (kk := 2) (y := 0) (b := 0) hi ?_ (by omega) (by decide) ?_
      · unfold fn_98 fn_96
        have q2 : ¬ (Int32.ofNat 60 < 60) := by decide
        simp only [if_neg n1, if_pos n2, t2, if_neg q2, i10, if_false]
      · unfold fn_100
        have q3 : Int32.ofNat 60 = 60 := rfl
        simp only [fn_26_b, b01_t h1, i10, not_false_eq_true, if_true, t3, q3, not_true, if_false, fn_29_2]
        rfl
  · refine in_no (kk := 1) (y := 0) (b := 0) hi ?_ (by omega) (by decide) ?_
    · unfold fn_98
      by_cases q1 : a < 33
      · simp only [if_pos q1]
      · have q9 : ¬ a ≤ 126 := fun z => h1 ⟨by have := mt l33.mpr q1; rw [l_33]; omega, by rw [l_126]; exact l126.mp z⟩
        simp only [if_neg q1, if_neg q9]
    · unfold fn_100
      simp only [fn_26_b, b01_f h1, not_true, if_false, fn_29_1]
      rfl
theorem op_9 {k : Nat} {D : am_DD} (hi : in_ok k D) : in_w2 k (fn_102 D) fn_103 := by
  obtain ⟨len, t1, t2, t3, t4⟩ := hi.2.2.2
  refine ⟨Int32.ofNat len, am_upd D 45 0 0, am_upd (am_upd (am_upd D 45 0 0) 321 7 0) 321 6 0, ?_, ?_, ?_⟩
  · unfold fn_102 fn_101
    dsimp only
    rw [t2]
  · unfold fn_103
    rw [u_ne (by omega), u_ne (by omega), t3]
  · refine in_txt hi (fun a' j z1 z2 z3 z4 z5 => ?_) ⟨0, by omega, ?_, by rw [u_self]; rfl, fun j hj => by omega⟩
    · have z6 := scr_ne z5
      rw [u_ne (by omega), u_ne (by omega), u_ne (by omega)]
    · rw [u_ne (by omega), u_ne (by omega), u_self]; rfl
/-! undoing -/
theorem cp_at {D : am_DD} {q f j : Nat} (hj : j < 405) : cp_a D q f 322 0 322 j = D q (f + j) := by
  unfold cp_a
  rw [if_pos ⟨rfl, by omega, by omega⟩, Nat.sub_zero]
theorem cp_ne {D : am_DD} {q f t r a : Nat} (h : a ≠ r) : cp_a D q f r t a = D a := by
  funext j
  unfold cp_a
  rw [if_neg (fun z => h z.1)]
theorem cpf_outr {s d a : Nat} (hsd : s + 32 ≤ d ∨ d + 32 ≤ s) (D : am_DD) (h : a < d ∨ d + 32 ≤ a) : ru_cpf s d ru_lay D a = D a := by
  funext k
  exact cpf_out hsd D h k
set_option maxHeartbeats 1000000 in
theorem op_12 {k : Nat} {D : am_DD} (hi : in_ok k D) : in_wr (hmf 0 1 0) k (fn_142 D) fn_144 := by
  obtain ⟨h1, ⟨o, c, o1, o2, o3, o4, o5, o6⟩, h3, h4⟩ := id hi
  by_cases hc : c = 0
  · subst hc
    refine in_no (kk := 2) (y := 0) (b := 0) hi ?_ (by omega) (by decide) ?_
    · unfold fn_142 fn_139
      have e : Int32.ofNat 0 = 0 := rfl
      simp only [o4, e, not_true, if_false]
    · unfold fn_144
      have e : Int32.ofNat 0 ≤ 0 := by decide
      simp only [o5, if_pos e, fn_29_1, not_true, if_false]
      rfl
  · have n0 : ¬ Int32.ofNat c = 0 := fun z => hc (n_inj (b := 0) (by omega) (by omega) z)
    have n1 : ¬ Int32.ofNat c ≤ 0 := fun z => hc (by have := (n_le (b := 0) (by omega) (by omega)).mp z; omega)
    have ec : Int32.ofNat c - 1 = Int32.ofNat (c - 1) := n_sub (b := 1) (by omega) (by omega)
    have hp : (o + (c - 1)) % 6 < 6 := Nat.mod_lt _ (by decide)
    generalize hpd : (o + (c - 1)) % 6 = p at hp
    have q1 : fn_15 (Int32.ofNat (c - 1)) (am_upd D 56 2 (Int32.ofNat (c - 1))) = some (Int32.ofNat p, am_upd D 56 2 (Int32.ofNat (c - 1))) := by
      rw [fn_15_spec o1 (by omega) (by rw [u_ne (by omega)]; exact o3), hpd]
    have q2 : sh_fetch_57 (Int32.ofNat p) (am_upd D 56 2 (Int32.ofNat (c - 1))) = some (ru_cpf (59 + 32 * p) 1 ru_lay (am_upd D 56 2 (Int32.ofNat (c - 1)))) := by
      unfold sh_fetch_57 sh_fetch
      have h0 : ¬ Int32.ofNat p < 0 := nI_pos (n := p) (by omega)
      rw [if_neg h0, c_ofNat (by omega), if_neg (by omega)]
    have q0 : ∀ a, (a < 1 ∨ 33 ≤ a) → ru_cpf (59 + 32 * p) 1 ru_lay (am_upd D 56 2 (Int32.ofNat (c - 1))) a = am_upd D 56 2 (Int32.ofNat (c - 1)) a := fun a ha => cpf_outr (by omega) _ (by omega)
    have q3 : ∀ q j, st_hit q j = true → ru_cpf (59 + 32 * p) 1 ru_lay (am_upd D 56 2 (Int32.ofNat (c - 1))) (1 + q) j = D (59 + 32 * p + q) j := fun q j hq => by
      rw [cpf_in (by omega) _ hq, u_row (by omega)]
    generalize hD1 : ru_cpf (59 + 32 * p) 1 ru_lay (am_upd D 56 2 (Int32.ofNat (c - 1))) = D1 at q2 q0 q3
    have q56 : D1 56 2 = Int32.ofNat (c - 1) := by rw [q0 56 (by omega), u_self]
    have r0 : am_upd D1 329 0 (Int32.ofNat (c - 1)) 321 2 = Int32.ofNat c := by rw [u_ne (by omega), q0 321 (by omega), u_ne (by omega), o5]
    have r1 : am_upd (am_upd D1 329 0 (Int32.ofNat (c - 1))) 321 7 0 321 2 = Int32.ofNat c := by rw [u_ne (by omega), r0]
    have e405 : (405 : Int32) * Int32.ofNat (c - 1) = Int32.ofNat (405 * (c - 1)) := n_mul 405 (c - 1)
    have g0 := fn_30_spec (q := 323) (nq := 2430) (r := 322) (nr := 405) (f := 405 * (c - 1)) (t := 0) (am_upd (am_upd (am_upd D1 329 0 (Int32.ofNat (c - 1))) 321 7 0) 321 2 (Int32.ofNat (c - 1))) (by decide) (by omega) (by omega) (by decide) (by decide)
    refine ⟨Int32.ofNat (c - 1), 0, D1, ?_, Or.inl ⟨rfl, cp_a (am_upd (am_upd (am_upd D1 329 0 (Int32.ofNat (c - 1))) 321 7 0) 321 2 (Int32.ofNat (c - 1))) 323 (405 * (c - 1)) 322 0, ?_, ?_, ?_, ?_⟩⟩
    · unfold fn_142 fn_139
      simp only [o4, if_pos n0]
      unfold fn_141
      rw [o4, if_neg n1, ec, u_self, q1]
      dsimp only
      rw [q2]
      dsimp only
      rw [q56]
    · unfold fn_144
      rw [r0, if_neg n1, fn_29_0]
      dsimp only
      rw [if_pos (show ¬ (1 : Int32) = 0 by decide), r1, ec, u_self, e405]
      have e0 : Int32.ofNat 0 = 0 := rfl
      rw [e0] at g0
      rw [g0]
      dsimp only
      rw [cp_ne (by omega), u_self]
    · rw [cp_ne (by omega), u_ne (by omega), u_self]
    · rw [cp_ne (by omega), u_ne (by omega), u_ne (by omega), u_self]
    · have hD : ∀ a j, a ≠ 322 → ¬ (1 ≤ a ∧ a < 33) → ¬ (a = 56 ∧ j = 2) → ¬ (a = 321 ∧ j = 2) → in_scr a j = false → cp_a (am_upd (am_upd (am_upd D1 329 0 (Int32.ofNat (c - 1))) 321 7 0) 321 2 (Int32.ofNat (c - 1))) 323 (405 * (c - 1)) 322 0 a j = D a j := fun a j z1 z2 z3 z4 z5 => by
        have z6 := scr_ne z5
        rw [cp_ne z1, u_ne z4, u_ne z6.2, u_ne (by omega), q0 a (by omega), u_ne z3]
      refine ⟨?_, ⟨o, c - 1, o1, by omega, ?_, ?_, ?_, fun r hr => ?_⟩, fun t ht => ?_, ?_⟩
      · refine st_mono (by omega) (st_congr (fun j hj => ?_) (fun q j hq => ?_) (o6 (c - 1) (by omega)))
        · rw [cp_at hj, u_row (by omega), u_row (by omega), u_row (by omega), q0 323 (by omega), u_row (by omega)]
        · have := st_v_hit hq
          unfold st_v
          rw [cp_ne (by omega), u_row (by omega), u_row (by omega), u_row (by omega), q3 q j hq, hpd]
      · rw [hD 56 1 (by omega) (by omega) (by omega) (by omega) (by decide), o3]
      · rw [cp_ne (by omega), u_ne (by omega), u_ne (by omega), u_ne (by omega), q56]
      · rw [cp_ne (by omega), u_self]
      · refine st_mono (by omega) (st_congr (fun j hj => ?_) (fun q j hq => ?_) (o6 r (by omega)))
        · exact hD 323 _ (by omega) (by omega) (by omega) (by omega) (by simp [in_scr])
        · have := st_v_hit hq
          have h8 : (o + r) % 6 < 6 := Nat.mod_lt _ (by decide)
          exact hD _ j (by omega) (by omega) (by omega) (by omega) (in_scr_runs _ (by omega) (by omega) (by omega) _)
      · rw [hD 325 t (by omega) (by omega) (by omega) (by omega) (by simp [in_scr]), hD 320 t (by omega) (by omega) (by omega) (by omega) (by simp [in_scr])]
        rcases h3 t ht with g | ⟨g1, g2, g3⟩
        · exact Or.inl g
        · refine Or.inr ⟨g1, g2, st_mono (by omega) (st_congr (fun j _ => hD 324 _ (by omega) (by omega) (by omega) (by omega) (by simp [in_scr])) (fun q j hq => ?_) g3)⟩
          have h9 := st_v_hit hq
          exact hD _ j (by omega) (by omega) (by omega) (by omega) (in_scr_runs _ (by omega) (by omega) (by omega) _)
      · obtain ⟨len, t1, t2, t3, t4⟩ := h4
        refine ⟨len, t1, by rw [hD 45 0 (by omega) (by omega) (by omega) (by omega) (by decide)]; exact t2, by rw [hD 321 6 (by omega) (by omega) (by omega) (by omega) (by decide)]; exact t3, fun j hj => ?_⟩
        rw [hD 47 j (by omega) (by omega) (by omega) (by omega) (by simp [in_scr]), hD 326 j (by omega) (by omega) (by omega) (by omega) (by simp [in_scr])]
        exact t4 j hj
