/-! all orders are carried out by both -/
section VY
variable {len : Nat} {T : Nat → Nat}
theorem ex_z {N W i : Nat} {C : am_DD} (h : W ≤ i) (hi : i < 100) : fn_136_41 (N + 1) (Int32.ofNat W) (Int32.ofNat i) C = some (Int32.ofNat i, 0, am_upd C 45 0 0) := by
  rw [fn_136_41, if_pos (n_ile (by omega) (by omega) h)]
  rfl
theorem ex_n {N W i : Nat} {C : am_DD} (h : i < W) (hi : W < 100) (hc : fn_135 (Int32.ofNat i) C = some (0, C)) : fn_136_41 (N + 1) (Int32.ofNat W) (Int32.ofNat i) C = some (Int32.ofNat i, 0, am_upd C 45 0 0) := by
  rw [fn_136_41, if_neg (n_nle (by omega) (by omega) h), hc]
  rfl
theorem ex_y {N W i : Nat} {C C1 : am_DD} (h : i < W) (hi : W < 100) (hc : fn_135 (Int32.ofNat i) C = some (1, C1)) : fn_136_41 (N + 1) (Int32.ofNat W) (Int32.ofNat i) C = fn_136_41 N (Int32.ofNat W) (Int32.ofNat (i + 1)) C1 := by
  rw [fn_136_41, if_neg (n_nle (by omega) (by omega) h), hc]
  dsimp only
  rw [if_neg (by decide), nI_up]
theorem fn_126_x {N : Nat} {D : am_DD} (h : fn_124 D = some (0, D)) : fn_126_15 (N + 1) 1 1 D = some (1, D) := by
  rw [fn_126_15, if_neg (by decide), if_neg (by decide), h]
  rfl
theorem fn_126_y {N : Nat} {D D1 : am_DD} {y : Int32} (h : fn_124 D = some (1, D)) (h2 : fn_125 D = some (y, D1)) : fn_126_15 (N + 1) 1 1 D = nxM N 1 (am_upd D1 321 12 (D1 321 12 + 1)) := by
  rw [fn_126_15, if_neg (by decide), if_neg (by decide), h]
  dsimp only
  rw [if_pos (by decide), h2]
  unfold nxM rdM2
  rfl
def cx_fr (C C1 : am_DD) : Prop := C1 45 0 = 0 ∧ ∀ a j, 33 ≤ a → ¬ (a = 45 ∧ j = 0) → C1 a j = C a j
def rx_fr (R R1 : am_DD) : Prop := ∀ a j, a ≠ 322 → a ≠ 328 → ¬ (a = 321 ∧ (j = 9 ∨ j = 10 ∨ j = 12)) → R1 a j = R a j
theorem st_v45 {C : am_DD} {v : Int32} {B : Nat} {s : Nat → Int32} (h : st_ok B s (st_v C 1)) : st_ok B s (st_v (am_upd C 45 0 v) 1) := by
  refine st_congr (fun _ _ => rfl) (fun o j ho => ?_) h
  have := st_v_hit ho
  unfold st_v
  rw [u_ne (by omega)]
theorem ex_lp : ∀ (w p i W N N' B : Nat) (C R : am_DD), ods T len C w p i → i + w = W → W ≤ 20 → txm R len T → R 321 9 = Int32.ofNat p → R 321 12 = Int32.ofNat i → p ≤ len → w < N → w + 1 < N' → st_ok B (R 322) (st_v C 1) →
    ∃ y C1 R1, fn_136_41 N (Int32.ofNat W) (Int32.ofNat i) C = some (Int32.ofNat y, 0, C1) ∧ rdM N' 1 R = some (1, R1) ∧ R1 321 12 = Int32.ofNat y ∧ cx_fr C C1 ∧ rx_fr R R1 ∧ st_ok (B + 50 * w) (R1 322) (st_v C1 1) := by
  intro w
  induction w with
  | zero => intro p i W N N' B C R h; exact absurd h id
  | succ n ih =>
    intro p i W N N' B C R ho hW hW2 ht h9 h12 hp hN hN' hok
    have l60 := ht.1
    obtain ⟨N, rfl⟩ : ∃ n', N = n' + 1 := ⟨N - 1, by omega⟩
    obtain ⟨N', rfl⟩ : ∃ n', N' = n' + 1 := ⟨N' - 1, by omega⟩
    obtain ⟨e, k, v, x, t, hr, o1, o2, o3, o4⟩ := ho
    have bd := pr_bd hr
    obtain ⟨R0, r1, r2, r3, r4, r5, r6⟩ := (fn_123_n ht h9 hp).2 e k v x t hr
    have e322 : R0 322 = R 322 := by
      funext j
      exact r6 322 j (by omega) (by omega)
    have rf0 : rx_fr R R0 := fun a j _ h2 h3 => r6 a j h2 (fun z => h3 (by omega))
    have t0 := r6.tx ht
    have run : rdM (N' + 1) 1 R = fn_126_15 (N' + 1) 1 1 R0 := by
      unfold rdM
      rw [r1]
    rw [run]
    rcases ex_all (j := i) (C := C) (R := R0) (B := B) (by rw [e322]; exact hok) (by omega) o1 o2 o3 r3 r4 r5 bd.2.2 with ⟨c1, c2⟩ | ⟨C1, y, R1, c1, c2, c3, c4, c5, c6⟩
    · refine ⟨i, _, R0, ex_n (by omega) (by omega) c1, fn_126_x c2, by rw [r6 321 12 (by omega) (by omega)]; exact h12, ⟨u_self _ _ _ _, fun a j _ h2 => u_ne h2⟩, rf0, st_v45 ?_⟩
      rw [e322]
      exact st_mono (by omega) hok
    · rw [fn_126_y c3 c4, ex_y (by omega) (by omega) c1]
      generalize hR2 : am_upd R1 321 12 (R1 321 12 + 1) = R2
      have f2 : rx_fr R R2 := fun a j h1 h2 h3 => by rw [← hR2, u_ne (fun z => h3 (by omega)), c5 a h1]; exact rf0 a j h1 h2 h3
      have g12 : R2 321 12 = Int32.ofNat (i + 1) := by rw [← hR2, u_self, c5 321 (by omega), r6 321 12 (by omega) (by omega), h12, nI_up]
      have g9 : R2 321 9 = Int32.ofNat e := by rw [← hR2, u_ne (by omega), c5 321 (by omega)]; exact r2
      have g322 : R2 322 = R1 322 := by rw [← hR2, u_row (by omega)]
      have t2 : txm R2 len T := by
        obtain ⟨q1, q2, q3, q4⟩ := t0
        refine ⟨q1, trivial, by rw [← hR2, u_ne (by omega), c5 321 (by omega)]; exact q3, fun j hj => ⟨trivial, ?_⟩⟩
        rw [← hR2, u_ne (by omega), c5 326 (by omega)]
        exact (q4 j hj).2
      rcases o4 with ⟨rfl, rfl⟩ | ⟨q1, q2, q3⟩
      · obtain ⟨N, rfl⟩ : ∃ n', N = n' + 1 := ⟨N - 1, by omega⟩
        refine ⟨i + 1, _, R2, ex_z (by omega) (by omega), nx_e t2 g9, g12, ⟨u_self _ _ _ _, fun a j h1 h2 => by rw [u_ne h2, c2 a h1]⟩, f2, st_v45 ?_⟩
        rw [g322]
        exact st_mono (by omega) c6
      · obtain ⟨R3, s1, s2, s3, s4, s5⟩ := nx_m (N := N') (a := 1) t2 g9 q1 q2
        have f3 : rx_fr R R3 := fun a j h1 h2 h3 => by rw [s5 a j h2 (fun z => h3 (by omega))]; exact f2 a j h1 h2 h3
        have h322 : R3 322 = R1 322 := by
          funext j
          rw [s5 322 j (by omega) (by omega), g322]
        obtain ⟨y', C', R', z1, z2, z3, z4, z5, z6⟩ := ih (e + 1) (i + 1) W N N' (B + 50) C1 R3 (ods_congr (fun a j ha => by rw [c2 a (by omega)]) _ _ _ q3) (by omega) hW2 (s5.tx t2) s2 (by rw [s5 321 12 (by omega) (by omega)]; exact g12) (by omega) (by omega) (by omega) (by rw [h322]; exact c6)
        exact ⟨y', C', R', z1, s1.trans z2, z3, ⟨z4.1, fun a j h1 h2 => by rw [z4.2 a j h1 h2, c2 a h1]⟩, fun a j h1 h2 h3 => by rw [z5 a j h1 h2 h3]; exact f3 a j h1 h2 h3, st_mono (by omega) z6⟩
end VY
