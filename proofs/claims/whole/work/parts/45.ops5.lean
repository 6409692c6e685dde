/-! keeping and going back -/
theorem nar_1 : vp_nar .boolean 1 = 1 := by decide +kernel
set_option maxHeartbeats 1000000 in
theorem op_13 {k : Nat} {D : am_DD} (a : Int32) (hi : in_ok k D) : in_wr (hmf 1 0 0) k (fn_146 a D) (fn_149 a) := by
  by_cases h1 : rng a 0 1
  · obtain ⟨t, rfl, ht, -⟩ := rng_nat h1
    obtain ⟨i1, ⟨o, c, o1, o2, o3, o4, o5, o6⟩, i3, i4⟩ := id hi
    have q2 : sh_store_253 (Int32.ofNat t) D = some (am_upd (ru_cpf 1 (255 + 32 * t) ru_lay D) 320 t 1) := by
      unfold sh_store_253 sh_store
      have h0 : ¬ Int32.ofNat t < 0 := nI_pos (n := t) (by omega)
      rw [if_neg h0, c_ofNat (by omega), if_neg (by omega), rw_put_nI (by omega) (by decide)]
    have q0 : ∀ a, (a < 255 + 32 * t ∨ 255 + 32 * t + 32 ≤ a) → ru_cpf 1 (255 + 32 * t) ru_lay D a = D a := fun a ha => cpf_outr (by omega) _ ha
    have q3 : ∀ q j, st_hit q j = true → ru_cpf 1 (255 + 32 * t) ru_lay D (255 + 32 * t + q) j = D (1 + q) j := fun q j hq => cpf_in (by omega) _ hq
    generalize hDc : ru_cpf 1 (255 + 32 * t) ru_lay D = Dc at q2 q0 q3
    have y0 : D 322 0 = D 1 0 := ok_i i1 0 (by omega)
    have e405 : (405 : Int32) * Int32.ofNat t = Int32.ofNat (405 * t) := n_mul 405 t
    have g0 := fn_30_spec (q := 322) (nq := 405) (r := 324) (nr := 810) (f := 0) (t := 405 * t) (am_upd (am_upd (am_upd Dc 320 t 1) 329 0 (D 1 0)) 321 7 0) (by decide) (by omega) (by omega) (by decide) (by decide)
    refine ⟨D 1 0, 0, am_upd Dc 320 t 1, ?_, Or.inl ⟨rfl, am_upd (cp_a (am_upd (am_upd (am_upd Dc 320 t 1) 329 0 (D 1 0)) 321 7 0) 322 0 324 (405 * t)) 325 t 1, ?_, ?_, ?_, ?_⟩⟩
    · unfold fn_146
      simp only [fn_145_b, b01_t h1, i10, not_false_eq_true, if_true, q2]
      rw [u_row (by omega), q0 1 (by omega)]
    · unfold fn_149
      have e0 : Int32.ofNat 0 = 0 := rfl
      rw [e0] at g0
      simp only [fn_148_b, b01_t h1, i10, if_false, not_false_eq_true, if_true, fn_29_0, e405, g0]
      rw [if_neg (n_bad (by decide) (by omega)), c_ofNat (by omega), nar_1, u_row (by omega), cp_ne (by omega), u_row (by omega), u_row (by omega), u_row (by omega), q0 322 (by omega), y0]
    · rw [u_row (by omega), cp_ne (by omega), u_self]
    · rw [u_row (by omega), cp_ne (by omega), u_row (by omega), u_self]
    · have hD : ∀ a j, (a < 255 + 32 * t ∨ 255 + 32 * t + 32 ≤ a) → a ≠ 324 → ¬ (a = 320 ∧ j = t) → ¬ (a = 325 ∧ j = t) → in_scr a j = false → am_upd (cp_a (am_upd (am_upd (am_upd Dc 320 t 1) 329 0 (D 1 0)) 321 7 0) 322 0 324 (405 * t)) 325 t 1 a j = D a j := fun a j z0 z1 z2 z3 z5 => by
        have z6 := scr_ne z5
        rw [u_ne z3, cp_ne z1, u_ne z6.2, u_ne (by omega), u_ne z2, q0 a z0]
      refine ⟨?_, ⟨o, c, o1, o2, ?_, ?_, ?_, fun r hr => ?_⟩, fun t' ht' => ?_, ?_⟩
      · refine st_mono (by omega) (st_congr (fun j hj => ?_) (fun q j hq => ?_) i1)
        · exact hD 322 j (by omega) (by omega) (by omega) (by omega) (by simp [in_scr])
        · have := st_v_hit hq
          exact hD _ j (by omega) (by omega) (by omega) (by omega) (in_scr_live _ (by omega) _)
      · rw [hD 56 1 (by omega) (by omega) (by omega) (by omega) (by decide), o3]
      · rw [hD 56 2 (by omega) (by omega) (by omega) (by omega) (by decide), o4]
      · rw [hD 321 2 (by omega) (by omega) (by omega) (by omega) (by decide), o5]
      · refine st_mono (by omega) (st_congr (fun j hj => ?_) (fun q j hq => ?_) (o6 r hr))
        · exact hD 323 _ (by omega) (by omega) (by omega) (by omega) (by simp [in_scr])
        · have := st_v_hit hq
          have h8 : (o + r) % 6 < 6 := Nat.mod_lt _ (by decide)
          exact hD _ j (by omega) (by omega) (by omega) (by omega) (in_scr_runs _ (by omega) (by omega) (by omega) _)
      · by_cases htt : t' = t
        · subst htt
          refine Or.inr ⟨by rw [u_self], by rw [u_row (by omega), cp_ne (by omega), u_row (by omega), u_row (by omega), u_self], st_mono (by omega) (st_congr (fun j hj => ?_) (fun q j hq => ?_) i1)⟩
          · rw [u_row (by omega)]
            unfold cp_a
            rw [if_pos ⟨rfl, by omega, by omega⟩, u_row (by omega), u_row (by omega), u_row (by omega), q0 322 (by omega), show 0 + (405 * t' + j - 405 * t') = j by omega]
          · have := st_v_hit hq
            unfold st_v
            rw [u_row (by omega), cp_ne (by omega), u_row (by omega), u_row (by omega), u_row (by omega), q3 q j hq]
        · rw [hD 325 t' (by omega) (by omega) (by omega) (by omega) (by simp [in_scr]), hD 320 t' (by omega) (by omega) (by omega) (by omega) (by simp [in_scr])]
          rcases i3 t' ht' with g | ⟨g1, g2, g3⟩
          · exact Or.inl g
          · refine Or.inr ⟨g1, g2, st_mono (by omega) (st_congr (fun j hj => ?_) (fun q j hq => ?_) g3)⟩
            · rw [u_row (by omega)]
              unfold cp_a
              rw [if_neg (by omega), u_row (by omega), u_row (by omega), u_row (by omega), q0 324 (by omega)]
            · have h9 := st_v_hit hq
              exact hD _ j (by omega) (by omega) (by omega) (by omega) (in_scr_runs _ (by omega) (by omega) (by omega) _)
      · obtain ⟨len, t1, t2, t3, t4⟩ := i4
        refine ⟨len, t1, by rw [hD 45 0 (by omega) (by omega) (by omega) (by omega) (by decide)]; exact t2, by rw [hD 321 6 (by omega) (by omega) (by omega) (by omega) (by decide)]; exact t3, fun j hj => ?_⟩
        rw [hD 47 j (by omega) (by omega) (by omega) (by omega) (by simp [in_scr]), hD 326 j (by omega) (by omega) (by omega) (by omega) (by simp [in_scr])]
        exact t4 j hj
  · refine in_no (kk := 1) (y := 0) (b := 0) hi ?_ (by omega) (by decide) ?_
    · unfold fn_146
      simp only [fn_145_b, b01_f h1, not_true, if_false]
    · unfold fn_149
      simp only [fn_148_b, b01_f h1, fn_29_1, not_true, if_true, if_false]
      rfl
theorem fn_150_b {D : am_DD} {t : Nat} (ht : t < 2) : fn_150_253 (Int32.ofNat t) D = some (b01 (D 320 t = 1), D) := by
  unfold fn_150_253
  rw [rw_at_nI ht (by decide)]
  by_cases z : D 320 t = 1
  · rw [if_neg (not_not_intro z), b01_t z]
  · rw [if_pos z, b01_f z]
set_option maxHeartbeats 1000000 in
theorem op_14 {k : Nat} {D : am_DD} (a : Int32) (hi : in_ok k D) : in_wr (hmf 1 2 0) k (fn_151 a D) (fn_153 a) := by
  by_cases h1 : rng a 0 1
  · obtain ⟨t, rfl, ht, -⟩ := rng_nat h1
    rcases hi.2.2.1 t (by omega) with ⟨z1, z2⟩ | ⟨z1, z2, z3⟩
    · have z2' : ¬ D 320 t = 1 := by rw [z2]; decide
      refine in_no (kk := 2) (y := 0) (b := 0) hi ?_ (by omega) (by decide) ?_
      · unfold fn_151
        simp only [fn_145_b, b01_t h1, i10, not_false_eq_true, if_true, fn_150_b (show t < 2 by omega), b01_f z2', not_true, if_false]
      · unfold fn_153
        simp only [fn_148_b, b01_t h1, i10, not_false_eq_true, if_true]
        rw [if_neg (n_bad (by decide) (by omega)), c_ofNat (by omega), z1]
        simp only [if_true, fn_29_2, not_true, if_false]
        rfl
    · have q2 : ∀ D : am_DD, sh_fetch_253 (Int32.ofNat t) D = some (ru_cpf (255 + 32 * t) 1 ru_lay D) := fun D => by
        unfold sh_fetch_253 sh_fetch
        have h0 : ¬ Int32.ofNat t < 0 := nI_pos (n := t) (by omega)
        rw [if_neg h0, c_ofNat (by omega), if_neg (by omega)]
      have e405 : (405 : Int32) * Int32.ofNat t = Int32.ofNat (405 * t) := n_mul 405 t
      have g0 : ∀ D4 : am_DD, fn_30 324 810 322 405 (Int32.ofNat (405 * t)) 0 D4 = some (0, cp_a D4 324 (405 * t) 322 0) := fun D4 => fn_30_spec (q := 324) (nq := 810) (r := 322) (nr := 405) (f := 405 * t) (t := 0) D4 (by decide) (by omega) (by omega) (by decide) (by decide)
      obtain ⟨Dh, y, D1, D4, D5, u1, u2, u3, u4, u5, u6, u7, u8⟩ := in_und hi (fC := fun Dh => some ((ru_cpf (255 + 32 * t) 1 ru_lay Dh) 1 0, ru_cpf (255 + 32 * t) 1 ru_lay Dh)) (fM := fun D4 => some (cp_a D4 324 (405 * t) 322 0 322 0, cp_a D4 324 (405 * t) 322 0)) (by
        intro Dh hh hok
        have old : ∀ q j, Dh (255 + 32 * t + q) j = D (255 + 32 * t + q) j := fun q j => by rw [hh_at hh (by omega) (by omega)]
        have q0 : ∀ a, (a < 1 ∨ 33 ≤ a) → ru_cpf (255 + 32 * t) 1 ru_lay Dh a = Dh a := fun a ha => cpf_outr (by omega) _ (by omega)
        have q3 : ∀ q j, st_hit q j = true → ru_cpf (255 + 32 * t) 1 ru_lay Dh (1 + q) j = D (255 + 32 * t + q) j := fun q j hq => by rw [cpf_in (by omega) _ hq, old]
        have y0 : D 324 (405 * t + 0) = D (255 + 32 * t + 0) 0 := by
          obtain ⟨m, n, st, kp, o, hb, nb, r, -⟩ := z3
          exact r.1 0 (by omega)
        have y1 : ru_cpf (255 + 32 * t) 1 ru_lay Dh 1 0 = D (255 + 32 * t + 0) 0 := q3 0 0 (by decide)
        generalize hD1 : ru_cpf (255 + 32 * t) 1 ru_lay Dh = D1 at q0 q3 y1
        have b2 : ∀ a j, in_kc a j → D1 a j = Dh a j := fun a j h => by rw [q0 a (by have := h.1; omega)]
        refine ⟨_, D1, rfl, b2, fun D4 c2 => ?_⟩
        have c324 : ∀ j, D4 324 j = D 324 j := fun j => by rw [c2 _ _ (by omega) (by omega), u_ne (by omega), u_ne (by omega), q0 324 (by omega), hh_at hh (by omega) (by omega)]
        have d2 : ∀ a j, in_km a j → cp_a D4 324 (405 * t) 322 0 a j = D4 a j := fun a j h => by rw [cp_ne h.1]
        refine ⟨_, ?_, d2, ?_, tx_fin hi hh b2 c2 d2 (by rw [q0 45 (by omega)]) (fun j => by rw [q0 47 (by omega)]) (by rw [cp_ne (by omega)])⟩
        · rw [cp_at (by omega), c324, y0, y1]
        · refine st_mono (by omega) (st_congr (fun j hj => ?_) (fun o j ho => ?_) z3)
          · rw [cp_at hj, c324]
          · have := st_v_hit ho
            unfold st_v
            rw [cp_ne (by omega), c2 _ j (by omega) (by omega), u_ne (by omega), u_ne (by omega), q3 o j ho])
      have g2 := Prod.mk.inj (Option.some.inj u2)
      have g4 := Prod.mk.inj (Option.some.inj u4)
      refine ⟨y, 0, D1, ?_, Or.inl ⟨rfl, D5, ?_, u5, u6, u7⟩⟩
      · unfold fn_151
        simp only [fn_145_b, b01_t h1, i10, not_false_eq_true, if_true, fn_150_b (show t < 2 by omega), b01_t z2, u1, q2]
        rw [g2.1, g2.2]
      · have e3 : am_upd D1 329 0 y 325 t = 1 := by rw [u_ne (by omega), u8 325 t (by omega) (by simp [in_scr]), z1]
        unfold fn_153
        simp only [fn_148_b, b01_t h1, i10, not_false_eq_true, if_true]
        rw [if_neg (n_bad (by decide) (by omega)), c_ofNat (by omega), e3]
        simp only [i10, if_false, fn_29_0, not_false_eq_true, if_true, u3, e405, g0]
        rw [g4.1, g4.2]
  · refine in_no (kk := 1) (y := 0) (b := 0) hi ?_ (by omega) (by decide) ?_
    · unfold fn_151
      simp only [fn_145_b, b01_f h1, not_true, if_false]
    · unfold fn_153
      simp only [fn_148_b, b01_f h1, fn_29_1, not_true, if_false]
      rfl
/-! both answer the same number, and nothing changes -/
theorem in_qs {hm : Nat → Int32} {k : Nat} {C : Option (Int32 × Nat × am_DD)} {M : am_DD → Option (Int32 × am_DD)} {D : am_DD} {y : Int32} (hi : in_ok k D) (hC : C = some (y, 0, D)) (hM : M (am_upd D 329 0 y) = some (y, am_upd (am_upd D 329 0 y) 321 7 0)) : in_wr hm k C M :=
  in_q hi hC (in_agr.rf D) hM ((in_agr.rf _).upd (by decide)) (u_self _ _ _ _) (by rw [u_ne (by omega), u_self])
set_option maxHeartbeats 1000000 in
theorem op_18 {k : Nat} {D : am_DD} (a : Int32) (hi : in_ok k D) : in_wr (hmf 1 0 0) k (fn_172 a D) (fn_174 a) := by
  obtain ⟨len, t1, t2, t3, t4⟩ := hi.2.2.2
  obtain ⟨o, c, o1, o2, o3, o4, o5, o6⟩ := hi.2.1
  have okk := ok_i hi.1
  by_cases h1 : rng a (0 : Int32).toInt (11 : Int32).toInt
  · obtain ⟨x, rfl, hx, -⟩ := rng_nat (a := a) (hi := 11) h1
    by_cases h10 : x < 10
    · have n10 : ¬ (10 : Int32) ≤ Int32.ofNat x := fun z => by
        have := (n_le (a := 10) (by omega) (by omega)).mp z
        omega
      refine in_qs (y := D 322 x) hi ?_ ?_
      · rw [okk x (by omega)]
        obtain rfl | rfl | rfl | rfl | rfl | rfl | rfl | rfl | rfl | rfl : x = 0 ∨ x = 1 ∨ x = 2 ∨ x = 3 ∨ x = 4 ∨ x = 5 ∨ x = 6 ∨ x = 7 ∨ x = 8 ∨ x = 9 := by omega
        all_goals rfl
      · unfold fn_174
        simp only [fn_26_b, b01_t h1, i10, not_false_eq_true, if_false, if_true, fn_29_0, if_neg n10]
        rw [if_neg (n_bad (by decide) (by omega)), c_ofNat (by omega), u_row (by omega), u_row (by omega)]
    · obtain rfl | rfl : x = 10 ∨ x = 11 := by omega
      · refine in_qs (y := D 56 2) hi rfl ?_
        unfold fn_174
        simp only [fn_26_b, b01_t h1, i10, not_false_eq_true, if_false, if_true, fn_29_0]
        rw [if_pos (by decide), if_neg (by decide), u_ne (by omega), u_ne (by omega), o5, o4]
      · refine in_qs (y := D 45 0) hi rfl ?_
        unfold fn_174
        simp only [fn_26_b, b01_t h1, i10, not_false_eq_true, if_false, if_true, fn_29_0]
        rw [if_pos (by decide), if_pos (by decide), u_ne (by omega), u_ne (by omega), t3, t2]
  · have nn : ∀ x : Nat, x ≤ 11 → ¬ a = Int32.ofNat x := fun x hx z => h1 (by
      rw [z, rng, t_ofNat (by omega)]
      have : (11 : Int32).toInt = 11 := rfl
      rw [this, l_0]
      omega)
    refine in_no (kk := 1) (y := 0) (b := 0) hi ?_ (by omega) (by decide) ?_
    · unfold fn_172
      rw [if_neg (show ¬ a = 0 from nn 0 (by omega)), if_neg (show ¬ a = 1 from nn 1 (by omega)), if_neg (show ¬ a = 2 from nn 2 (by omega)), if_neg (show ¬ a = 3 from nn 3 (by omega)), if_neg (show ¬ a = 4 from nn 4 (by omega)), if_neg (show ¬ a = 5 from nn 5 (by omega)), if_neg (show ¬ a = 6 from nn 6 (by omega)), if_neg (show ¬ a = 7 from nn 7 (by omega)), if_neg (show ¬ a = 8 from nn 8 (by omega)), if_neg (show ¬ a = 9 from nn 9 (by omega)), if_neg (show ¬ a = 10 from nn 10 (by omega)), if_neg (show ¬ a = 11 from nn 11 (by omega))]
    · unfold fn_174
      simp only [fn_26_b, b01_f h1, fn_29_1, not_true, if_true, if_false]
      rfl
