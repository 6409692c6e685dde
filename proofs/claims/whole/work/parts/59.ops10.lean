/-! the period: 27 -/
section VR5
variable {D : am_DD} {m n kp o : Nat}
theorem rs_none {T0 T1 A : Nat → Nat} {t : Nat} : ∀ G, (∀ g, g < G → T0 g ≠ t ∧ T1 g ≠ t) → rs T0 T1 A t G = 0 := by
  intro G
  induction G with
  | zero => intro _; rfl
  | succ G ih =>
    intro h
    unfold rs
    rw [ih (fun g hg => h g (by omega)), if_neg (h G (by omega)).1, if_neg (h G (by omega)).2]
theorem same_b {d e : Nat → Int32} : rw_same d e 12 = 0 ↔ ¬ ∀ g, g < 12 → d g = e g := by
  unfold rw_same
  by_cases q : ∀ g, g < 12 → d g = e g
  · have : (List.range 12).all (fun k => decide (d k = e k)) = true := List.all_eq_true.mpr (fun g hg => decide_eq_true (q g (List.mem_range.mp hg)))
    rw [if_pos this]
    exact ⟨fun z => absurd z (by decide), fun z => absurd q z⟩
  · have : ¬ (List.range 12).all (fun k => decide (d k = e k)) = true := fun z => q (fun g hg => of_decide_eq_true (List.all_eq_true.mp z g (List.mem_range.mpr hg)))
    rw [if_neg this]
    exact ⟨fun _ => q, fun _ => rfl⟩
/-- the class's sides are as they were, if and only if all gates' counts are even -/
theorem same_even {K : Nat} {A : Nat → Nat} {Dc : am_DD} (h : vw D m n kp o) (hm : 0 < m) (hA : rl_fp (t0 D) (t1 D) m K A) (hR : RS D A Dc) : (∀ g, g < 12 → Dc 35 g = Dc 10 g) ↔ ∀ g, g < m → ar D m K g % 2 = 0 := by
  have hm12 := h.1.1
  have side : ∀ g, g < 12 → (Dc 35 g = Dc 10 g ↔ A g % 2 = 0) := fun g hg => by
    obtain ⟨s1, s2⟩ := vw_sd h hg
    have q : D 322 (11 + 7 * g + 0) = D 10 g := h.2.2.2.2.1 g 0 hg (by omega)
    rw [hR.2.2 g hg, hR.1 10 (by omega) (by omega), ← q, Nat.add_zero, s1]
    unfold par
    by_cases z : A g % 2 = 0
    · rw [if_pos z]
      exact ⟨fun _ => z, fun _ => rfl⟩
    · rw [if_neg z]
      refine ⟨fun w => ?_, fun w => absurd w z⟩
      have := n_inj (by omega) (by omega) w
      omega
  constructor
  · intro w g hg
    rw [ar_pos hm, ← fp_bs h hA g]
    exact (side g (by omega)).mp (w g (by omega))
  · intro w g hg
    by_cases hgm : g < m
    · have := w g hgm
      rw [ar_pos hm, ← fp_bs h hA g] at this
      exact (side g hg).mpr this
    · have z : A g = 0 := by
        rw [hA g, if_neg (by omega), rs_none m (fun g' hg' => ?_)]
        obtain ⟨s1, s2⟩ := vw_sd h (show g' < 12 by omega)
        have a := (vw_tg h hg' s2).2.2.2
        have b := (vw_tg h hg' (show 1 - sd D g' < 2 by omega)).2.2.2
        have a' : t0 D g' < m ∨ 20 ≤ t0 D g' := a
        have b' : t1 D g' < m ∨ 20 ≤ t1 D g' := b
        omega
      exact (side g hg).mpr (by rw [z])
theorem lp_235 {K : Nat} (h : vw D m n kp o) (hK : K ≤ 5000) {Dr : am_DD} (hr : Dr 322 = D 322) (hv : ∀ j, j < 25 → Dr 327 j = Int32.ofNat (ar D m K j)) : ∀ (c g N : Nat) (x2 : Int32), g + c = m → c < N → (x2 = 0 ∨ x2 = 1) → ∃ r, (r = 0 ∨ r = 1) ∧ fn_235_9 N x2 (Int32.ofNat g) Dr = some (r, Dr) ∧ (r = 1 ↔ x2 = 1 ∧ ∀ g', g ≤ g' → g' < m → ar D m K g' % 2 = 0) := by
  have hm := h.1.1
  have n01 : ¬ (0 : Int32) = 1 := by decide
  intro c
  induction c with
  | zero =>
    intro g N x2 hg hN hx
    obtain ⟨N, rfl⟩ : ∃ n', N = n' + 1 := ⟨N - 1, by omega⟩
    refine ⟨x2, hx, ?_, ⟨fun z => ⟨z, fun g' a b => by omega⟩, fun z => z.1⟩⟩
    rw [fn_235_9, hr, h.2.1.1, if_pos (n_ile (by omega) (by omega) (by omega))]
    rcases hx with rfl | rfl <;> rfl
  | succ c ih =>
    intro g N x2 hg hN hx
    obtain ⟨N, rfl⟩ : ∃ n', N = n' + 1 := ⟨N - 1, by omega⟩
    rw [fn_235_9, hr, h.2.1.1, if_neg (n_nle (by omega) (by omega) (by omega)), nI_up]
    rcases hx with rfl | rfl
    · rw [if_pos rfl]
      obtain ⟨r, r1, r2, r3⟩ := ih (g + 1) N 0 (by omega) (by omega) (Or.inl rfl)
      exact ⟨r, r1, r2, r3.trans ⟨fun z => absurd z.1 n01, fun z => absurd z.1 n01⟩⟩
    · have ab := ar_bound h (K := K) (j := g) hK
      have em : Int32.ofNat (ar D m K g) - Int32.ofNat (ar D m K g) / 2 * 2 = Int32.ofNat (ar D m K g % 2) := n_mod (b := 2) ab (by omega) (by omega)
      rw [if_neg (by decide), if_neg (n_bad (by decide) (by omega)), c_ofNat (by omega), hv g (by omega), em]
      by_cases q : ar D m K g % 2 = 0
      · have q' : Int32.ofNat (ar D m K g % 2) = 0 := by rw [q]; rfl
        rw [if_neg (not_not_intro q')]
        obtain ⟨r, r1, r2, r3⟩ := ih (g + 1) N 1 (by omega) (by omega) (Or.inr rfl)
        refine ⟨r, r1, r2, r3.trans ⟨fun z => ⟨z.1, fun g' a b => ?_⟩, fun z => ⟨z.1, fun g' a b => z.2 g' (by omega) b⟩⟩⟩
        by_cases w : g' = g
        · rw [w]; exact q
        · exact z.2 g' (by omega) b
      · have q' : ¬ Int32.ofNat (ar D m K g % 2) = 0 := fun z => q (n_inj (b := 0) (by omega) (by omega) z)
        rw [if_pos q']
        obtain ⟨r, r1, r2, r3⟩ := ih (g + 1) N 0 (by omega) (by omega) (Or.inl rfl)
        exact ⟨r, r1, r2, r3.trans ⟨fun z => absurd z.1 n01, fun z => absurd (z.2 g (Nat.le_refl _) (by omega)) q⟩⟩
theorem fn_235_n {K : Nat} (h : vw D m n kp o) (hK : K ≤ 5000) {Dr : am_DD} (hr : Dr 322 = D 322) : ∃ r D2, (r = 0 ∨ r = 1) ∧ fn_235 (Int32.ofNat K) Dr = some (r, D2) ∧ (r = 1 ↔ ∀ g, g < m → ar D m K g % 2 = 0) ∧ ∀ a, a ≠ 327 → D2 a = Dr a := by
  obtain ⟨Da, a1, a2, a3⟩ := fn_218_n (K := K) hK h hr
  obtain ⟨r, r1, r2, r3⟩ := lp_235 h hK (Dr := Da) (by rw [a2 322 (by omega), hr]) a3 m 0 100000 1 (by omega) (by have := h.1.1; omega) (Or.inr rfl)
  refine ⟨r, Da, r1, ?_, r3.trans ⟨fun z g hg => z.2 g (by omega) hg, fun z => ⟨rfl, fun g _ hg => z g hg⟩⟩, a2⟩
  unfold fn_235 am_F
  rw [a1]
  exact r2
theorem lp_233 (h : vw D m n kp o) (hm : 0 < m) : ∀ (c i N N' : Nat) (Dc : am_DD) (A : Nat → Nat), (i + 1) + c = 4096 → c < N → c < N' → rl_fp (t0 D) (t1 D) m i A → RS D A Dc → ∃ y D1, fn_233_19 N (Int32.ofNat (i + 1)) Dc = some (y, D1) ∧ (∀ a, a ≠ 35 → a ≠ 37 → D1 a = D a) ∧ ∀ Dr : am_DD, Dr 322 = D 322 → ∃ D2, fn_236_7 N' (Int32.ofNat (i + 1)) Dr = some (y, D2) ∧ ∀ a, a ≠ 327 → D2 a = Dr a := by
  have hm12 := h.1.1
  have nm : ¬ Int32.ofNat m = 0 := fun z => by have := n_inj (b := 0) (by omega) (by omega) z; omega
  intro c
  induction c with
  | zero =>
    intro i N N' Dc A hi hN hN' hA hR
    obtain ⟨N, rfl⟩ : ∃ n', N = n' + 1 := ⟨N - 1, by omega⟩
    obtain ⟨N', rfl⟩ : ∃ n', N' = n' + 1 := ⟨N' - 1, by omega⟩
    have q : (4096 : Int32) ≤ Int32.ofNat (i + 1) := n_ile (a := 4096) (by omega) (by omega) (by omega)
    refine ⟨4096, Dc, ?_, hR.1, fun Dr hr => ⟨Dr, ?_, fun _ _ => rfl⟩⟩
    · rw [fn_233_19, if_pos q]
    · rw [fn_236_7, if_pos q, hr, h.2.1.1, if_pos nm, show i + 1 = 4096 by omega]
      rfl
  | succ c ih =>
    intro i N N' Dc A hi hN hN' hA hR
    obtain ⟨N, rfl⟩ : ∃ n', N = n' + 1 := ⟨N - 1, by omega⟩
    obtain ⟨N', rfl⟩ : ∃ n', N' = n' + 1 := ⟨N' - 1, by omega⟩
    have q : ¬ (4096 : Int32) ≤ Int32.ofNat (i + 1) := n_nle (a := 4096) (by omega) (by omega) (by omega)
    obtain ⟨b', D1, A', i1, i2, i3, i4, i5⟩ := roll1 h hm hA hR
    have ev := same_even h hm i4 i3
    by_cases w : ∀ g, g < m → ar D m (i + 1) g % 2 = 0
    · have ns : ¬ rw_same (D1 35) (D1 10) 12 = 0 := fun z => same_b.mp z (ev.mpr w)
      refine ⟨Int32.ofNat (i + 1), D1, ?_, i3.1, fun Dr hr => ?_⟩
      · rw [fn_233_19, if_neg q, i2]
        dsimp only
        rw [if_neg ns]
      · obtain ⟨r, D2, r1, r2, r3, r4⟩ := fn_235_n (K := i + 1) h (by omega) hr
        have e : r = 1 := r3.mpr w
        subst e
        refine ⟨D2, ?_, r4⟩
        rw [fn_236_7, if_neg q, r2]
        dsimp only
        rw [if_pos (by decide), r4 322 (by omega), hr, h.2.1.1, if_pos nm]
    · have ns : rw_same (D1 35) (D1 10) 12 = 0 := same_b.mpr (fun z => w (ev.mp z))
      obtain ⟨y, D2, j1, j2, j3⟩ := ih (i + 1) N N' D1 A' (by omega) (by omega) (by omega) i4 i3
      refine ⟨y, D2, ?_, j2, fun Dr hr => ?_⟩
      · rw [fn_233_19, if_neg q, i2]
        dsimp only
        rw [if_pos ns, nI_up]
        exact j1
      · obtain ⟨r, D3, r1, r2, r3, r4⟩ := fn_235_n (K := i + 1) h (by omega) hr
        have e : r = 0 := r1.resolve_right (fun z => w (r3.mp z))
        subst e
        obtain ⟨D4, x1, x2⟩ := j3 D3 (by rw [r4 322 (by omega), hr])
        refine ⟨D4, ?_, fun a ha => (x2 a ha).trans (r4 a ha)⟩
        rw [fn_236_7, if_neg q, r2]
        dsimp only
        rw [if_neg (by decide), nI_up]
        exact x1
end VR5
set_option maxHeartbeats 2000000 in
theorem op_27 {k : Nat} {D : am_DD} (hi : in_ok k D) : in_w2 k (fn_234 D) fn_236 := by
  obtain ⟨m, n, kp, o, h⟩ := vw_of hi.1
  have hm := h.1.1
  have e2 := h.2.1.2
  have fin : ∀ (D1 D2 : am_DD), (∀ a, a ≠ 35 → a ≠ 37 → D1 a = D a) → (∀ a, a ≠ 327 → D2 a = am_upd D1 321 7 0 a) → in_ok (k + 1) D2 := fun D1 D2 h1 h2 => by
    refine in_ok.agr (Nat.le_succ k) (fun a j hs => ?_) hi
    have q35 : a ≠ 35 := fun q => by subst q; simp [in_scr] at hs
    have q37 : a ≠ 37 := fun q => by subst q; simp [in_scr] at hs
    have q327 : a ≠ 327 := fun q => by subst q; simp [in_scr] at hs
    have z6 := scr_ne hs
    rw [h2 a q327, u_ne z6.2, h1 a q35 q37]
  by_cases hm0 : m = 0
  · have nr : ¬ rng (0 : Int32) 0 (m - 1) := fun z => by
      have := z.2
      rw [l_0] at this
      omega
    obtain ⟨r, D2, r1, r2, r3, r4⟩ := fn_235_n (K := 1) h (by omega) (Dr := am_upd D 321 7 0) (u_row (by omega))
    have e : r = 1 := r3.mpr (fun g hg => by omega)
    subst e
    have r2' : fn_235 1 (am_upd D 321 7 0) = some (1, D2) := r2
    refine ⟨-1, D, D2, ?_, ?_, fin D D2 (fun _ _ _ => rfl) r4⟩
    · unfold fn_234 fn_233
      rw [fn_36_b e2 hm, b01_f nr]
      rfl
    · have n0 : Int32.ofNat m = 0 := by rw [hm0]; rfl
      unfold fn_236 am_F
      show fn_236_7 (99999 + 1) 1 (am_upd D 321 7 0) = _
      rw [fn_236_7, if_neg (by decide), r2']
      dsimp only
      rw [if_pos (by decide), r4 322 (by omega), u_row (by omega), h.2.1.1, if_neg (not_not_intro n0)]
  · have yr : rng (0 : Int32) 0 (m - 1) := ⟨by rw [l_0]; omega, by rw [l_0]; omega⟩
    obtain ⟨Dc, w1, w2⟩ := RS_0 h
    obtain ⟨y, D1, i1, i2, i3⟩ := lp_233 h (by omega) 4095 0 100000 100000 Dc _ (by omega) (by omega) (by omega) fp_zero w2
    have i1' : fn_233_19 100000 1 Dc = some (y, D1) := i1
    obtain ⟨D2, j1, j2⟩ := i3 (am_upd D1 321 7 0) (by rw [u_row (by omega), i2 322 (by omega) (by omega)])
    have j1' : fn_236_7 100000 1 (am_upd D1 321 7 0) = some (y, D2) := j1
    refine ⟨y, D1, D2, ?_, ?_, fin D1 D2 i2 j2⟩
    · unfold fn_234 fn_233 am_F
      rw [fn_36_b e2 hm, b01_t yr]
      dsimp only
      rw [if_pos (by decide), w1]
      dsimp only
      rw [i1']
    · unfold fn_236 am_F
      exact j1'
