/-! both programs' rolling -/
/-- the exits as naturals: where the side points first, and the other -/
def tg (D : am_DD) (g e : Nat) : Nat := (D 322 (13 + 7 * g + e)).toNatClampNeg
def sd (D : am_DD) (g : Nat) : Nat := (D 322 (11 + 7 * g)).toNatClampNeg
def t0 (D : am_DD) (g : Nat) : Nat := tg D g (sd D g)
def t1 (D : am_DD) (g : Nat) : Nat := tg D g (1 - sd D g)
section VR
variable {D D' : am_DD} {m n kp o : Nat}
theorem vw_sd (h : vw D m n kp o) {g : Nat} (hg : g < 12) : D 322 (11 + 7 * g) = Int32.ofNat (sd D g) ∧ sd D g < 2 := by
  obtain ⟨e, he, es⟩ := h.2.2.2.2.2.2.2.1 g hg
  unfold sd
  rw [es, c_ofNat (by omega)]
  exact ⟨rfl, he⟩
theorem vw_tg (h : vw D m n kp o) {g e : Nat} (hg : g < m) (he : e < 2) : D 322 (13 + 7 * g + e) = Int32.ofNat (tg D g e) ∧ g < tg D g e ∧ tg D g e < 25 ∧ (tg D g e < m ∨ 20 ≤ tg D g e) := by
  obtain ⟨t, ts, tb⟩ := h.2.2.2.2.2.2.2.2.1 g e hg he
  have := h.1.1
  unfold tg
  rw [ts, c_ofNat (by omega)]
  exact ⟨rfl, by omega, by omega, by omega⟩
theorem vw_T (h : vw D m n kp o) : ∀ g, g < m → g < t0 D g ∧ g < t1 D g := fun g hg => by
  have := (vw_sd h (show g < 12 by have := h.1.1; omega)).2
  exact ⟨(vw_tg h hg this).2.1, (vw_tg h hg (by omega)).2.1⟩
/-- half of a count -/
theorem n_half {a : Nat} (h : a < 2 ^ 31 - 1) : (Int32.ofNat a + 1) / 2 = Int32.ofNat ((a + 1) / 2) ∧ Int32.ofNat a / 2 = Int32.ofNat (a / 2) := by
  have hd : ∀ b : Nat, b < 2 ^ 31 → Int32.ofNat b / 2 = Int32.ofNat (b / 2) := fun b hb => by
    apply Int32.toInt_inj.mp
    rw [Int32.toInt_div, t_ofNat hb, t_ofNat (by omega), l_2]
    have h2 : ((b : Int).tdiv 2) = ((b / 2 : Nat) : Int) := by
      rw [Int.tdiv_eq_ediv_of_nonneg (by omega)]
      rfl
    rw [h2, Int.bmod_def]
    split <;> omega
  rw [nI_up]
  exact ⟨hd _ (by omega), hd _ (by omega)⟩
theorem upd2 {D : am_DD} {r a b u v j : Nat} {B : Nat → Nat} (hB : ∀ j, j < 25 → D r j = Int32.ofNat (B j)) (ha : a < 25) (hb : b < 25) (hj : j < 25) : am_upd (am_upd D r a (D r a + Int32.ofNat u)) r b (am_upd D r a (D r a + Int32.ofNat u) r b + Int32.ofNat v) r j = Int32.ofNat (B j + ((if a = j then u else 0) + (if b = j then v else 0))) := by
  by_cases qb : j = b
  · subst qb
    rw [u_self, if_pos rfl]
    by_cases qa : j = a
    · subst qa
      rw [u_self, if_pos rfl, hB j hj, n_add, n_add, Nat.add_assoc]
    · rw [u_ne (fun z => qa z.2), if_neg (fun z => qa z.symm), hB j hj, n_add, Nat.zero_add]
  · rw [u_ne (fun z => qb z.2), if_neg (show ¬ b = j from fun z => qb z.symm), Nat.add_zero]
    by_cases qa : j = a
    · subst qa
      rw [u_self, if_pos rfl, hB j hj, n_add]
    · rw [u_ne (fun z => qa z.2), if_neg (fun z => qa z.symm), hB j hj, Nat.add_zero]
/-- the class, gate by gate -/
theorem lp_214 {K : Nat} {x2 : Nat} (hK : K ≤ 5000) (hx2 : x2 < 25) (h : vw D m n kp o) : ∀ (c g N : Nat) (Dc : am_DD), g + c = m → c < N → (∀ a, a ≠ 37 → Dc a = D a) → (∀ j, j < 25 → Dc 37 j = Int32.ofNat (bs (t0 D) (t1 D) K g j)) →
    ∃ D1, fn_214_18 N (Int32.ofNat x2) (Int32.ofNat g) Dc = some (Int32.ofNat (bs (t0 D) (t1 D) K m x2), D1) ∧ (∀ a, a ≠ 37 → D1 a = D a) ∧ ∀ j, j < 25 → D1 37 j = Int32.ofNat (bs (t0 D) (t1 D) K m j) := by
  have hm := h.1.1
  intro c
  induction c with
  | zero =>
    intro g N Dc hg hN hA hB
    obtain ⟨N, rfl⟩ : ∃ n', N = n' + 1 := ⟨N - 1, by omega⟩
    have : g = m := by omega
    subst this
    refine ⟨Dc, ?_, hA, hB⟩
    rw [fn_214_18, hA 8 (by omega), h.2.1.2, if_pos (n_ile (by omega) (by omega) (Nat.le_refl _)), rw_at_nI hx2 (by decide), hB x2 hx2]
  | succ c ih =>
    intro g N Dc hg hN hA hB
    obtain ⟨N, rfl⟩ : ∃ n', N = n' + 1 := ⟨N - 1, by omega⟩
    have hc : vw Dc m n kp o := vw_congr (fun a ha => hA a (by omega)) h
    have c322 : Dc 322 = D 322 := hA 322 (by omega)
    obtain ⟨s1, s2⟩ := vw_sd h (show g < 12 by omega)
    obtain ⟨a1, a2, a3, a4⟩ := vw_tg h (show g < m by omega) s2
    obtain ⟨b1, b2, b3, b4⟩ := vw_tg h (show g < m by omega) (show 1 - sd D g < 2 by omega)
    have bnd := bs_bound (T0 := t0 D) (T1 := t1 D) (k := K) g g
    have p12 : (2 : Nat) ^ g ≤ 2 ^ 12 := Nat.pow_le_pow_right (by omega) (by omega)
    have bnd2 : bs (t0 D) (t1 D) K g g < 2 ^ 31 - 1 := by
      have : (K + 1) * 2 ^ g ≤ 5001 * 2 ^ 12 := Nat.mul_le_mul (by omega) p12
      omega
    obtain ⟨hf1, hf2⟩ := n_half bnd2
    have eside : rw_at (Dc 10) 12 (Int32.ofNat g) = Int32.ofNat (sd D g) := by rw [vw_side hc (by omega), c322, s1]
    have f0 : fn_73 (Int32.ofNat g) (Int32.ofNat (sd D g)) Dc = some (Int32.ofNat (t0 D g), Dc) := by rw [vw_tgt hc (by omega) s2, c322, a1]; rfl
    have e1 : (1 : Int32) - Int32.ofNat (sd D g) = Int32.ofNat (1 - sd D g) := n_sub (a := 1) (by omega) (by omega)
    have e10 : ∀ v w D3, D3 10 = Dc 10 → rw_at ((am_upd D3 37 v w) 10) 12 (Int32.ofNat g) = Int32.ofNat (sd D g) := fun v w D3 hD3 => by rw [u_row (by omega), hD3, eside]
    have h0 : t0 D g < 25 := a3
    have h1 : t1 D g < 25 := b3
    have f1 : ∀ v w, fn_73 (Int32.ofNat g) (Int32.ofNat (1 - sd D g)) (am_upd Dc 37 v w) = some (Int32.ofNat (t1 D g), am_upd Dc 37 v w) := fun v w => by
      have hcv : vw (am_upd Dc 37 v w) m n kp o := vw_congr (fun a ha => by rw [u_row (by omega)]) hc
      rw [vw_tgt hcv (by omega) (by omega), u_row (by omega), c322, b1]
      rfl
    have hg0 : bs (t0 D) (t1 D) K g g = bs (t0 D) (t1 D) K g g := rfl
    rw [fn_214_18, hA 8 (by omega), h.2.1.2, if_neg (n_nle (by omega) (by omega) (by omega)), eside, f0]
    dsimp only
    rw [rw_at_nI (show g < 25 by omega) (by decide), hB g (by omega), hf1, hf2, rw_raise_nI h0 (by decide), e1, f1]
    dsimp only
    rw [rw_raise_nI h1 (by decide), nI_up]
    refine ih (g + 1) N _ (by omega) (by omega) (fun a ha => by rw [u_row ha, u_row ha, hA a ha]) (fun j hj => ?_)
    have e : bs (t0 D) (t1 D) K (g + 1) j = bs (t0 D) (t1 D) K g j + ((if t0 D g = j then (bs (t0 D) (t1 D) K g g + 1) / 2 else 0) + (if t1 D g = j then bs (t0 D) (t1 D) K g g / 2 else 0)) := rfl
    rw [e]
    exact upd2 hB h0 h1 hj
/-- the reference, gate by gate -/
theorem lp_218 {K : Nat} (hK : K ≤ 5000) (h : vw D m n kp o) : ∀ (c g N : Nat) (Dr : am_DD), g + c = m → c < N → Dr 322 = D 322 → (∀ j, j < 25 → Dr 327 j = Int32.ofNat (bs (t0 D) (t1 D) K g j)) →
    ∃ D1, fn_218_39 N (Int32.ofNat g) Dr = some (0, D1) ∧ (∀ a, a ≠ 327 → D1 a = Dr a) ∧ ∀ j, j < 25 → D1 327 j = Int32.ofNat (bs (t0 D) (t1 D) K m j) := by
  have hm := h.1.1
  intro c
  induction c with
  | zero =>
    intro g N Dr hg hN hA hB
    obtain ⟨N, rfl⟩ : ∃ n', N = n' + 1 := ⟨N - 1, by omega⟩
    have : g = m := by omega
    subst this
    refine ⟨Dr, ?_, fun _ _ => rfl, hB⟩
    rw [fn_218_39, hA, h.2.1.1, if_pos (n_ile (by omega) (by omega) (Nat.le_refl _))]
  | succ c ih =>
    intro g N Dr hg hN hA hB
    obtain ⟨N, rfl⟩ : ∃ n', N = n' + 1 := ⟨N - 1, by omega⟩
    obtain ⟨s1, s2⟩ := vw_sd h (show g < 12 by omega)
    obtain ⟨a1, a2, a3, a4⟩ := vw_tg h (show g < m by omega) s2
    obtain ⟨b1, b2, b3, b4⟩ := vw_tg h (show g < m by omega) (show 1 - sd D g < 2 by omega)
    have bnd := bs_bound (T0 := t0 D) (T1 := t1 D) (k := K) g g
    have p12 : (2 : Nat) ^ g ≤ 2 ^ 12 := Nat.pow_le_pow_right (by omega) (by omega)
    have bnd2 : bs (t0 D) (t1 D) K g g < 2 ^ 31 - 1 := by
      have : (K + 1) * 2 ^ g ≤ 5001 * 2 ^ 12 := Nat.mul_le_mul (by omega) p12
      omega
    obtain ⟨hf1, hf2⟩ := n_half bnd2
    have h0 : t0 D g < 25 := a3
    have h1 : t1 D g < 25 := b3
    have side : ∀ Dx : am_DD, Dx 322 = D 322 → fn_48 (Int32.ofNat g) 0 Dx = some (Int32.ofNat (sd D g), Dx) := fun Dx hx => by rw [vw_sideM hx (by omega), s1]
    have f0 : ∀ Dx : am_DD, Dx 322 = D 322 → fn_48 (Int32.ofNat g) (2 + Int32.ofNat (sd D g)) Dx = some (Int32.ofNat (t0 D g), Dx) := fun Dx hx => by rw [vw_tgtM hx (by omega) s2, a1]; rfl
    have e3 : (3 : Int32) - Int32.ofNat (sd D g) = 2 + Int32.ofNat (1 - sd D g) := by
      have x1 : (3 : Int32) - Int32.ofNat (sd D g) = Int32.ofNat (3 - sd D g) := n_sub (a := 3) (by omega) (by omega)
      have x2 : (2 : Int32) + Int32.ofNat (1 - sd D g) = Int32.ofNat (2 + (1 - sd D g)) := n_add 2 _
      rw [x1, x2, show 3 - sd D g = 2 + (1 - sd D g) by omega]
    have f1 : ∀ Dx : am_DD, Dx 322 = D 322 → fn_48 (Int32.ofNat g) (3 - Int32.ofNat (sd D g)) Dx = some (Int32.ofNat (t1 D g), Dx) := fun Dx hx => by rw [e3, vw_tgtM hx (by omega) (by omega), b1]; rfl
    have nb0 : ¬ (Int32.ofNat (t0 D g) < 0 ∨ 25 ≤ (Int32.ofNat (t0 D g)).toNatClampNeg) := n_bad (by decide) h0
    have nb1 : ¬ (Int32.ofNat (t1 D g) < 0 ∨ 25 ≤ (Int32.ofNat (t1 D g)).toNatClampNeg) := n_bad (by decide) h1
    have nbg : ¬ (Int32.ofNat g < 0 ∨ 25 ≤ (Int32.ofNat g).toNatClampNeg) := n_bad (by decide) (by omega)
    rw [fn_218_39, hA, h.2.1.1, if_neg (n_nle (by omega) (by omega) (by omega)), side Dr hA]
    dsimp only
    rw [f0 Dr hA]
    dsimp only
    rw [if_neg nb0, if_neg nbg, if_neg nb0, c_ofNat (by omega), c_ofNat (by omega), hB g (by omega), hf1, side _ (by rw [u_row (by omega), hA])]
    dsimp only
    rw [f1 _ (by rw [u_row (by omega), hA])]
    dsimp only
    rw [if_neg nb1, if_neg (show ¬ (Int32.ofNat g < 0 ∨ 25 ≤ g) by rw [c_ofNat (by omega)] at nbg; exact nbg), if_neg nb1, c_ofNat (by omega), nI_up]
    have gg : am_upd Dr 327 (t0 D g) (Dr 327 (t0 D g) + Int32.ofNat ((bs (t0 D) (t1 D) K g g + 1) / 2)) 327 g = Int32.ofNat (bs (t0 D) (t1 D) K g g) := by
      rw [u_ne (fun z => by have : g < t0 D g := a2; omega), hB g (by omega)]
    rw [gg, hf2]
    obtain ⟨D1, i1, i2, i3⟩ := ih (g + 1) N _ (by omega) (by omega) (show am_upd (am_upd Dr 327 (t0 D g) (Dr 327 (t0 D g) + Int32.ofNat ((bs (t0 D) (t1 D) K g g + 1) / 2))) 327 (t1 D g) (am_upd Dr 327 (t0 D g) (Dr 327 (t0 D g) + Int32.ofNat ((bs (t0 D) (t1 D) K g g + 1) / 2)) 327 (t1 D g) + Int32.ofNat (bs (t0 D) (t1 D) K g g / 2)) 322 = D 322 by rw [u_row (by omega), u_row (by omega), hA]) (fun j hj => by
      have e : bs (t0 D) (t1 D) K (g + 1) j = bs (t0 D) (t1 D) K g j + ((if t0 D g = j then (bs (t0 D) (t1 D) K g g + 1) / 2 else 0) + (if t1 D g = j then bs (t0 D) (t1 D) K g g / 2 else 0)) := rfl
      rw [e]
      exact upd2 hB h0 h1 hj)
    exact ⟨D1, i1, fun a ha => by rw [i2 a ha, u_row ha, u_row ha], i3⟩
end VR
