/-! rolling: gate by gate, ball by ball -/
/-- the exits: where the side points first, and the other -/
def sd (A : nD) (g : Nat) : Nat := A 10 g
def tg (A : nD) (g e : Nat) : Nat := A 16 (2 * g + e)
def t0 (A : nD) (g : Nat) : Nat := tg A g (sd A g)
def t1 (A : nD) (g : Nat) : Nat := tg A g (1 - sd A g)
theorem l_2 : (2 : Int32).toInt = 2 := rfl
/-- half of a count -/
theorem n_half {a : Nat} (h : a < 2 ^ 31 - 1) : (Int32.ofNat a + 1) / 2 = Int32.ofNat ((a + 1) / 2) ∧ Int32.ofNat a / 2 = Int32.ofNat (a / 2) := by
  have hd : ∀ b : Nat, b < 2 ^ 31 → Int32.ofNat b / 2 = Int32.ofNat (b / 2) := fun b hb => by
    apply Int32.toInt_inj.mp
    rw [Int32.toInt_div, t_ofNat hb, t_ofNat (by omega), l_2]
    have h2 : ((b : Int).tdiv 2) = ((b / 2 : Nat) : Int) := by
      rw [Int.tdiv_eq_ediv_of_nonneg (by omega)]
      rfl
    rw [h2, Int.bmod_def]
    split <;> omega
  rw [nI_up]
  exact ⟨hd _ (by omega), hd _ (by omega)⟩
theorem upd2 {D : am_DD} {r a b u v j : Nat} {B : Nat → Nat} (hB : ∀ j, j < 25 → D r j = Int32.ofNat (B j)) (ha : a < 25) (hb : b < 25) (hj : j < 25) : am_upd (am_upd D r a (D r a + Int32.ofNat u)) r b (am_upd D r a (D r a + Int32.ofNat u) r b + Int32.ofNat v) r j = Int32.ofNat (B j + ((if a = j then u else 0) + (if b = j then v else 0))) := by
  by_cases qb : j = b
  · subst qb
    rw [u_self, if_pos rfl]
    by_cases qa : j = a
    · subst qa
      rw [u_self, if_pos rfl, hB j hj, n_add, n_add, Nat.add_assoc]
    · rw [u_ne (fun z => qa z.2), if_neg (fun z => qa z.symm), hB j hj, n_add, Nat.zero_add]
  · rw [u_ne (fun z => qb z.2), if_neg (show ¬ b = j from fun z => qb z.symm), Nat.add_zero]
    by_cases qa : j = a
    · subst qa
      rw [u_self, if_pos rfl, hB j hj, n_add]
    · rw [u_ne (fun z => qa z.2), if_neg (fun z => qa z.symm), hB j hj, Nat.add_zero]
section VR
variable {A : nD} {D : am_DD}
theorem ig_sd (hg : ig A) {g : Nat} (h : g < 12) : sd A g < 2 := by
  unfold sd
  by_cases z : g < A 8 0
  · have := (hg.2.1 g z).2.1
    omega
  · have := (hg.2.2.2 g (by omega) h).1
    omega
theorem ig_tg (hg : ig A) {g e : Nat} (h : g < A 8 0) (he : e < 2) : g < tg A g e ∧ tg A g e < 25 ∧ (tg A g e < A 8 0 ∨ 20 ≤ tg A g e) := by
  have := hg.2.2.1 g e h he
  have := hg.1
  unfold tg
  omega
theorem ig_T (hg : ig A) : ∀ g, g < A 8 0 → g < t0 A g ∧ g < t1 A g := fun g h => by
  have := ig_sd hg (show g < 12 by have := hg.1; omega)
  exact ⟨(ig_tg hg h this).1, (ig_tg hg h (by omega)).1⟩
theorem lp_58 {K x2 : Nat} (hK : K ≤ 5000) (hx2 : x2 < 25) (hg : ig A) : ∀ (c g N : Nat) (Dc : am_DD), rel A Dc → g + c = A 8 0 → c < N → (∀ j, j < 25 → Dc 37 j = Int32.ofNat (bs (t0 A) (t1 A) K g j)) →
    ∃ D1, fn_58_18 N (Int32.ofNat x2) (Int32.ofNat g) Dc = some (Int32.ofNat (bs (t0 A) (t1 A) K (A 8 0) x2), D1) ∧ rel A D1 := by
  have hm := hg.1
  intro c
  induction c with
  | zero =>
    intro g N Dc h hgc hN hB
    obtain ⟨N, rfl⟩ := succ_of hN
    have e : g = A 8 0 := by omega
    subst e
    refine ⟨Dc, ?_, h⟩
    rw [fn_58_18, h.a8, if_pos (ile (by omega) (by omega) (Nat.le_refl _)), rw_at_nI hx2 (by decide), hB x2 hx2]
  | succ c ih =>
    intro g N Dc h hgc hN hB
    obtain ⟨N, rfl⟩ := succ_of hN
    have s2 := ig_sd hg (show g < 12 by omega)
    obtain ⟨a2, a3, a4⟩ := ig_tg hg (show g < A 8 0 by omega) s2
    obtain ⟨b2, b3, b4⟩ := ig_tg hg (show g < A 8 0 by omega) (show 1 - sd A g < 2 by omega)
    have bnd := bs_bound (T0 := t0 A) (T1 := t1 A) (k := K) g g
    have p12 : (2 : Nat) ^ g ≤ 2 ^ 12 := Nat.pow_le_pow_right (by omega) (by omega)
    have bnd2 : bs (t0 A) (t1 A) K g g < 2 ^ 31 - 1 := by
      have : (K + 1) * 2 ^ g ≤ 5001 * 2 ^ 12 := Nat.mul_le_mul (by omega) p12
      omega
    obtain ⟨hf1, hf2⟩ := n_half bnd2
    have eside : rw_at (Dc 10) 12 (Int32.ofNat g) = Int32.ofNat (sd A g) := q_side h (by omega)
    have f0 : fn_31 (Int32.ofNat g) (Int32.ofNat (sd A g)) Dc = some (Int32.ofNat (t0 A g), Dc) := q_tgt h (by omega) s2
    have e1 : (1 : Int32) - Int32.ofNat (sd A g) = Int32.ofNat (1 - sd A g) := n_sub (a := 1) (by omega) (by omega)
    have h0 : t0 A g < 25 := a3
    have h1 : t1 A g < 25 := b3
    have f1 : ∀ v w, fn_31 (Int32.ofNat g) (Int32.ofNat (1 - sd A g)) (am_upd Dc 37 v w) = some (Int32.ofNat (t1 A g), am_upd Dc 37 v w) := fun v w => q_tgt (h.row fun a ha => u_row (by omega)) (by omega) (by omega)
    rw [fn_58_18, h.a8, if_neg (nle (by omega) (by omega) (by omega)), eside, f0]
    dsimp only
    rw [rw_at_nI (show g < 25 by omega) (by decide), hB g (by omega), hf1, hf2, rw_raise_nI h0 (by decide), e1, f1]
    dsimp only
    rw [rw_raise_nI h1 (by decide), nI_up]
    refine ih (g + 1) N _ (h.row fun a ha => by rw [u_row (by omega), u_row (by omega)]) (by omega) (by omega) (fun j hj => ?_)
    have e : bs (t0 A) (t1 A) K (g + 1) j = bs (t0 A) (t1 A) K g j + ((if t0 A g = j then (bs (t0 A) (t1 A) K g g + 1) / 2 else 0) + (if t1 A g = j then bs (t0 A) (t1 A) K g g / 2 else 0)) := rfl
    rw [e]
    exact upd2 hB h0 h1 hj
theorem fn_58_n {K x : Nat} (hK : K ≤ 5000) (hx : x < 25) (h : rel A D) (hg : ig A) : ∃ D1, fn_58 (Int32.ofNat K) (Int32.ofNat x) D = some (Int32.ofNat (bs (t0 A) (t1 A) K (A 8 0) x), D1) ∧ rel A D1 := by
  have wA : ∀ a, a ≠ 37 → rw_wipe D 37 25 a = D a := fun a ha => by
    funext j
    unfold rw_wipe
    rw [if_neg (fun q => ha q.1)]
  have w37 : ∀ j, j < 25 → rw_wipe D 37 25 37 j = 0 := fun j hj => if_pos ⟨rfl, hj⟩
  have f : rw_put (rw_wipe D 37 25) 37 25 0 (Int32.ofNat K) = am_upd (rw_wipe D 37 25) 37 0 (Int32.ofNat K) := rw_put_nI (k := 0) (by decide) (by decide)
  obtain ⟨D1, i1, i2⟩ := lp_58 hK hx hg (A 8 0) 0 100000 (am_upd (rw_wipe D 37 25) 37 0 (Int32.ofNat K)) (h.row fun a ha => by rw [u_row (by omega), wA a (by omega)]) (by omega) (by have := hg.1; omega) (fun j hj => by
    by_cases z : j = 0
    · rw [z, u_self]
      rfl
    · rw [u_ne (fun q => z q.2), w37 j hj]
      have : bs (t0 A) (t1 A) K 0 j = 0 := if_neg z
      rw [this]
      rfl)
  refine ⟨D1, ?_, i2⟩
  unfold fn_58 am_F
  rw [f]
  exact i1
end VR
def ar (A : nD) (K j : Nat) : Nat := if A 8 0 = 0 then 0 else bs (t0 A) (t1 A) K (A 8 0) j
def par (a s : Nat) : Nat := if a % 2 = 0 then s else 1 - s
/-- the rolling state: V arrivals -/
def RS (A : nD) (V : Nat → Nat) (Dc : am_DD) : Prop := rel A Dc ∧ (∀ j, j < 25 → Dc 37 j = Int32.ofNat (V j)) ∧ ∀ g, g < 12 → Dc 35 g = Int32.ofNat (par (V g) (sd A g))
section VR2
variable {A : nD} {D : am_DD}
theorem lp_51 {K : Nat} (hg : ig A) : ∀ (c x2 x N : Nat) (Dc : am_DD) (V : Nat → Nat), x2 + c = 12 → c < N → ((x2 ≤ x ∧ x < A 8 0) ∨ (20 ≤ x ∧ x < 25)) → rl_mid (t0 A) (t1 A) (A 8 0) K x V → RS A V Dc →
    ∃ b D1 V', b < 5 ∧ fn_51_4 N (Int32.ofNat x) (Int32.ofNat x2) Dc = some (Int32.ofNat b, D1) ∧ RS A V' D1 ∧ rl_fp (t0 A) (t1 A) (A 8 0) K V' ∧ ∀ j, 20 ≤ j → V' j = V j + (if j = 20 + b then 1 else 0) := by
  have hm := hg.1
  have last : ∀ (x2 x N : Nat) (Dc : am_DD) (V : Nat → Nat), x2 ≤ 12 → 0 < N → (20 ≤ x ∧ x < 25) → rl_mid (t0 A) (t1 A) (A 8 0) K x V → RS A V Dc →
    ∃ b D1 V', b < 5 ∧ fn_51_4 N (Int32.ofNat x) (Int32.ofNat x2) Dc = some (Int32.ofNat b, D1) ∧ RS A V' D1 ∧ rl_fp (t0 A) (t1 A) (A 8 0) K V' ∧ ∀ j, 20 ≤ j → V' j = V j + (if j = 20 + b then 1 else 0) := by
    intro x2 x N Dc V hx2 hN hx hmid ⟨r1, r2, r3⟩
    obtain ⟨N, rfl⟩ := succ_of hN
    have e20 : Int32.ofNat x - 20 = Int32.ofNat (x - 20) := n_sub (b := 20) (by omega) (by omega)
    refine ⟨x - 20, am_upd Dc 37 x (Dc 37 x + 1), fun j => if j = x then V j + 1 else V j, by omega, ?_, ⟨r1.row fun a ha => u_row (by omega), fun j hj => ?_, fun g hg => ?_⟩, mid_end (by omega) hmid, fun j hj => ?_⟩
    · rw [fn_51_4, q_nex r1 hm (by omega) (by omega)]
      dsimp only
      rw [if_pos rfl, rw_raise_nI (by omega) (by decide), e20]
      split <;> rfl
    · dsimp only
      by_cases z : j = x
      · rw [z, u_self, if_pos rfl, r2 x (by omega), nI_up]
      · rw [u_ne (fun q => z q.2), if_neg z, r2 j hj]
    · dsimp only
      rw [u_row (by omega), if_neg (show ¬ g = x by omega), r3 g hg]
    · dsimp only
      by_cases z : j = x
      · rw [if_pos z, if_pos (by omega)]
      · rw [if_neg z, if_neg (by omega), Nat.add_zero]
  intro c
  induction c with
  | zero =>
    intro x2 x N Dc V hx hN hb hmid hR
    exact last x2 x N Dc V (by omega) (by omega) (by omega) hmid hR
  | succ c ih =>
    intro x2 x N Dc V hx hN hb hmid hR
    rcases hb with hb | hb
    · obtain ⟨N, rfl⟩ := succ_of hN
      obtain ⟨r1, r2, r3⟩ := id hR
      have n12 : ¬ (12 : Int32) ≤ Int32.ofNat x2 := nle (a := 12) (by omega) (by omega) (by omega)
      have s2 := ig_sd hg (show x < 12 by omega)
      have hs2 : par (V x) (sd A x) < 2 := by unfold par; split <;> omega
      have ht : tg A x (par (V x) (sd A x)) = (if V x % 2 = 0 then t0 A x else t1 A x) := by
        unfold par
        by_cases z : V x % 2 = 0
        · rw [if_pos z, if_pos z]; rfl
        · rw [if_neg z, if_neg z]; rfl
      have hpar : par (V x + 1) (sd A x) = 1 - par (V x) (sd A x) := by
        unfold par
        by_cases z : V x % 2 = 0
        · rw [if_pos z, if_neg (by omega)]
        · rw [if_neg z, if_pos (by omega)]; omega
      obtain ⟨a2, a3, a4⟩ := ig_tg hg hb.2 hs2
      have ft : ∀ Dx : am_DD, rel A Dx → fn_31 (Int32.ofNat x) (Int32.ofNat (par (V x) (sd A x))) Dx = some (Int32.ofNat (if V x % 2 = 0 then t0 A x else t1 A x), Dx) := fun Dx hx => by
        rw [← ht]
        exact q_tgt hx (by omega) hs2
      rw [ht] at a2 a3 a4
      generalize hs : par (V x) (sd A x) = s at hs2 hpar ft
      generalize htt : (if V x % 2 = 0 then t0 A x else t1 A x) = t at a2 a3 a4 ft
      have mid' := mid_step hb.2 hmid
      rw [htt] at mid'
      have e1 : (1 : Int32) - Int32.ofNat s = Int32.ofNat (1 - s) := n_sub (a := 1) (by omega) (by omega)
      have rr : rel A (am_upd (am_upd Dc 37 x (Dc 37 x + 1)) 35 x (Int32.ofNat (1 - s))) := r1.row fun a ha => by rw [u_row (by omega), u_row (by omega)]
      have R' : RS A (fun j => if j = x then V j + 1 else V j) (am_upd (am_upd Dc 37 x (Dc 37 x + 1)) 35 x (Int32.ofNat (1 - s))) := by
        refine ⟨rr, fun j hj => ?_, fun g hg => ?_⟩
        · dsimp only
          rw [u_row (by omega)]
          by_cases z : j = x
          · rw [z, u_self, if_pos rfl, r2 x (by omega), nI_up]
          · rw [u_ne (fun q => z q.2), if_neg z, r2 j hj]
        · dsimp only
          by_cases z : g = x
          · rw [z, u_self, if_pos rfl, hpar]
          · rw [u_ne (fun q => z q.2), u_row (by omega), if_neg z, r3 g hg]
      obtain ⟨b, D1, V', i1, i2, i3, i4, i5⟩ := ih (x2 + 1) t N _ _ (by omega) (by omega) (by omega) mid' R'
      refine ⟨b, D1, V', i1, ?_, i3, i4, fun j hj => ?_⟩
      · rw [fn_51_4, if_neg n12, q_ex r1 hm hb.2]
        dsimp only
        rw [if_neg i01, rw_raise_nI (by omega) (by decide), rw_at_nI (show x < 12 by omega) (by decide), u_row (show 35 ≠ 37 by omega), r3 x (by omega), hs, e1, rw_put_nI (by omega) (by decide), ft _ rr]
        dsimp only
        rw [nI_up]
        exact i2
      · rw [i5 j hj, if_neg (show ¬ j = x by omega)]
    · exact last x2 x N Dc V (by omega) (by omega) hb hmid hR
/-- one ball more -/
theorem roll1 {K : Nat} {Dc : am_DD} {V : Nat → Nat} (hg : ig A) (hm : 0 < A 8 0) (hV : rl_fp (t0 A) (t1 A) (A 8 0) K V) (hR : RS A V Dc) : ∃ b D1 V', b < 5 ∧ fn_51 Dc = some (Int32.ofNat b, D1) ∧ RS A V' D1 ∧ rl_fp (t0 A) (t1 A) (A 8 0) (K + 1) V' ∧ ∀ j, 20 ≤ j → V' j = V j + (if j = 20 + b then 1 else 0) := by
  obtain ⟨b, D1, V', i1, i2, i3⟩ := lp_51 hg 12 0 0 100000 Dc V (by omega) (by omega) (Or.inl ⟨by omega, hm⟩) (mid_start hV) hR
  exact ⟨b, D1, V', i1, i2, i3⟩
theorem rs_zero {T0 T1 : Nat → Nat} {t : Nat} : ∀ G, rs T0 T1 (fun _ => 0) t G = 0 := by
  intro G
  induction G with
  | zero => rfl
  | succ G ih =>
    unfold rs
    rw [ih]
    split <;> split <;> rfl
theorem fp_zero {T0 T1 : Nat → Nat} {m : Nat} : rl_fp T0 T1 m 0 (fun _ => 0) := by
  intro t
  rw [rs_zero]
  split <;> rfl
/-- the rolling state at the start -/
theorem RS_0 (h : rel A D) : ∃ Dc, fn_50 D = some (0, Dc) ∧ RS A (fun _ => 0) Dc := by
  refine ⟨_, rfl, h.row fun a ha => ?_, fun j hj => ?_, fun g hg => ?_⟩
  · funext j
    unfold rw_wipe rw_copy
    rw [if_neg (fun z => by have := z.1; omega), if_neg (fun z => by have := z.1; omega)]
  · exact if_pos ⟨rfl, hj⟩
  · have e : rw_wipe (rw_copy D 10 35 12) 37 25 35 g = D 10 g := by
      unfold rw_wipe rw_copy
      rw [if_neg (fun z => by have := z.1; omega), if_pos ⟨rfl, hg⟩]
    rw [e, h.a10 hg]
    rfl
/-- arrivals are those that the gate-by-gate count gives -/
theorem fp_bs {K : Nat} {V : Nat → Nat} (hg : ig A) (hV : rl_fp (t0 A) (t1 A) (A 8 0) K V) (t : Nat) : V t = bs (t0 A) (t1 A) K (A 8 0) t := fp_unique (ig_T hg) hV (bs_fp (ig_T hg)) (t + 1) t (by omega)
theorem lp_57 {K x : Nat} (hg : ig A) (hm : 0 < A 8 0) (hK : K ≤ 5000) (hx : x < 25) : ∀ (c i N : Nat) (Dc : am_DD) (V : Nat → Nat), i + c = K → c < N → rl_fp (t0 A) (t1 A) (A 8 0) i V → RS A V Dc → ∃ D1, fn_57_19 N (Int32.ofNat K) (Int32.ofNat x) (Int32.ofNat i) Dc = some (Int32.ofNat (bs (t0 A) (t1 A) K (A 8 0) x), D1) ∧ rel A D1 := by
  intro c
  induction c with
  | zero =>
    intro i N Dc V hi hN hV hR
    obtain ⟨N, rfl⟩ := succ_of hN
    have : i = K := by omega
    subst this
    refine ⟨Dc, ?_, hR.1⟩
    rw [fn_57_19, if_pos (ile (by omega) (by omega) (Nat.le_refl _)), rw_at_nI hx (by decide), hR.2.1 x hx, fp_bs hg hV x]
  | succ c ih =>
    intro i N Dc V hi hN hV hR
    obtain ⟨N, rfl⟩ := succ_of hN
    obtain ⟨b, D1, V', i1, i2, i3, i4, i5⟩ := roll1 hg hm hV hR
    obtain ⟨D2, j1, j2⟩ := ih (i + 1) N D1 V' (by omega) (by omega) i4 i3
    refine ⟨D2, ?_, j2⟩
    rw [fn_57_19, if_neg (nle (by omega) (by omega) (by omega)), i2]
    dsimp only
    rw [nI_up]
    exact j1
theorem fn_57_n {K x : Nat} (h : rel A D) (hg : ig A) (hK : K ≤ 5000) (hx : x < 25) : ∃ D1, fn_57 (Int32.ofNat K) (Int32.ofNat x) D = some (Int32.ofNat (ar A K x), D1) ∧ rel A D1 := by
  have hm := hg.1
  unfold ar
  by_cases hm0 : A 8 0 = 0
  · refine ⟨D, ?_, h⟩
    unfold fn_57
    rw [q_any h hm, if_pos hm0, if_pos hm0]
    rfl
  · obtain ⟨Dc, w1, w2⟩ := RS_0 h
    obtain ⟨D1, i1, i2⟩ := lp_57 hg (by omega) hK hx K 0 100000 Dc _ (by omega) (by omega) fp_zero w2
    refine ⟨D1, ?_, i2⟩
    have i1' : fn_57_19 100000 (Int32.ofNat K) (Int32.ofNat x) 0 Dc = some (Int32.ofNat (bs (t0 A) (t1 A) K (A 8 0) x), D1) := i1
    unfold fn_57 am_F
    rw [q_any h hm, if_neg hm0]
    dsimp only
    rw [if_pos i01, w1]
    dsimp only
    rw [if_neg hm0]
    exact i1'
theorem ar_bs {K x : Nat} (hx : 0 < x ∨ 0 < A 8 0) : bs (t0 A) (t1 A) K (A 8 0) x = ar A K x := by
  unfold ar
  by_cases z : A 8 0 = 0
  · rw [if_pos z, z]
    exact if_neg (by omega)
  · rw [if_neg z]
theorem q_count {K : Nat} (hK : K ≤ 1000) : fn_56 (Int32.ofNat K) D = some (1, D) := by
  have n0 : ¬ Int32.ofNat K < 0 := nI_pos (n := K) (by omega)
  have n1 : ¬ (1000 : Int32) < Int32.ofNat K := nlt (a := 1000) (by omega) (by omega) hK
  unfold fn_56
  rw [if_neg n0, if_neg n1]
/-! the calls -/
theorem r_0 {K x : Nat} (h : rel A D) (hg : ig A) (hK : K ≤ 1000) (hx : x < A 8 0 ∨ (20 ≤ x ∧ x < 25)) : ∃ D1, fn_59 (Int32.ofNat K) (Int32.ofNat x) 0 D = some (Int32.ofNat (ar A K x), 0, D1) ∧ rel A D1 := by
  have hm := hg.1
  obtain ⟨D1, d1, d2⟩ := fn_57_n (K := K) (x := x) h hg (by omega) (by omega)
  refine ⟨D1, ?_, d2⟩
  unfold fn_59
  rw [q_hast h hm hx]
  dsimp only
  rw [if_pos i01, q_count hK]
  dsimp only
  rw [if_neg i01, if_pos rfl, if_neg (not_not_intro rfl), d1]
theorem r_1 {K x : Nat} (h : rel A D) (hg : ig A) (hK : K ≤ 1000) (hx : x < A 8 0 ∨ (20 ≤ x ∧ x < 25)) : ∃ D1, fn_59 (Int32.ofNat K) (Int32.ofNat x) 1 D = some (Int32.ofNat (ar A K x), 0, D1) ∧ rel A D1 := by
  have hm := hg.1
  obtain ⟨D1, d1, d2⟩ := fn_58_n (K := K) (x := x) (by omega) (by omega) h hg
  rw [ar_bs (by omega)] at d1
  refine ⟨D1, ?_, d2⟩
  unfold fn_59
  rw [q_hast h hm hx]
  dsimp only
  rw [if_pos i01, q_count hK]
  dsimp only
  rw [if_neg i01, if_neg i01, if_pos rfl, if_pos i01, d1]
theorem r_w {K x w : Nat} (h : rel A D) (hg : ig A) (hK : K ≤ 1000) (hx : x < A 8 0 ∨ (20 ≤ x ∧ x < 25)) (hw : w < 2) : ∃ D1, fn_59 (Int32.ofNat K) (Int32.ofNat x) (Int32.ofNat w) D = some (Int32.ofNat (ar A K x), 0, D1) ∧ rel A D1 := by
  obtain rfl | rfl : w = 0 ∨ w = 1 := by omega
  · exact r_0 h hg hK hx
  · exact r_1 h hg hK hx
theorem ar_bound (hg : ig A) {K j : Nat} (hK : K ≤ 5000) : ar A K j < 2 ^ 30 := by
  unfold ar
  by_cases hm0 : A 8 0 = 0
  · rw [if_pos hm0]; omega
  · rw [if_neg hm0]
    have b := bs_bound (T0 := t0 A) (T1 := t1 A) (k := K) (A 8 0) j
    have p12 : (2 : Nat) ^ (A 8 0) ≤ 2 ^ 12 := Nat.pow_le_pow_right (by omega) hg.1
    have : (K + 1) * 2 ^ (A 8 0) ≤ 5001 * 2 ^ 12 := Nat.mul_le_mul (by omega) p12
    omega
theorem r_side {K g : Nat} (h : rel A D) (hg : ig A) (hK : K ≤ 1000) (hx : g < A 8 0) : ∃ D1, fn_61 (Int32.ofNat K) (Int32.ofNat g) D = some (Int32.ofNat ((A 10 g + ar A K g) % 2), 0, D1) ∧ rel A D1 := by
  have hm := hg.1
  obtain ⟨D1, d1, d2⟩ := fn_58_n (K := K) (x := g) (by omega) (by omega) h hg
  rw [ar_bs (by omega)] at d1
  have ab := ar_bound hg (K := K) (j := g) (by omega)
  have hs := (hg.2.1 g hx).2.1
  refine ⟨D1, ?_, d2⟩
  have em : (Int32.ofNat (A 10 g + ar A K g)) - (Int32.ofNat (A 10 g + ar A K g)) / 2 * 2 = Int32.ofNat ((A 10 g + ar A K g) % 2) := n_mod (b := 2) (by omega) (by omega) (by omega)
  unfold fn_61 fn_60
  rw [q_ex h hm hx]
  dsimp only
  rw [if_pos i01, q_count hK]
  dsimp only
  rw [if_pos i01, d1]
  dsimp only
  rw [q_side h (by omega), n_add, em]
theorem ar_pos (hm : 0 < A 8 0) {K j : Nat} : ar A K j = bs (t0 A) (t1 A) K (A 8 0) j := if_neg (by omega)
theorem lp_62 {K : Nat} (hg : ig A) (hm : 0 < A 8 0) (hK : K ≤ 5000) : ∀ (c i N : Nat) (Dc : am_DD) (V : Nat → Nat), i + c = K → c < N → rl_fp (t0 A) (t1 A) (A 8 0) i V → RS A V Dc → ∃ b D1, b < 5 ∧ fn_62_19 N (Int32.ofNat K) (Int32.ofNat i) Dc = some (Int32.ofNat b, D1) ∧ rel A D1 ∧ ∀ j, 20 ≤ j → ar A (K + 1) j = ar A K j + (if j = 20 + b then 1 else 0) := by
  intro c
  induction c with
  | zero =>
    intro i N Dc V hi hN hV hR
    obtain ⟨N, rfl⟩ := succ_of hN
    have : i = K := by omega
    subst this
    obtain ⟨b, D1, V', i1, i2, i3, i4, i5⟩ := roll1 hg hm hV hR
    refine ⟨b, D1, i1, ?_, i3.1, fun j hj => ?_⟩
    · rw [fn_62_19, if_pos (ile (by omega) (by omega) (Nat.le_refl _)), i2]
    · rw [ar_pos hm, ar_pos hm, ← fp_bs hg i4 j, ← fp_bs hg hV j, i5 j hj]
  | succ c ih =>
    intro i N Dc V hi hN hV hR
    obtain ⟨N, rfl⟩ := succ_of hN
    obtain ⟨b, D1, V', i1, i2, i3, i4, i5⟩ := roll1 hg hm hV hR
    obtain ⟨b', D2, j1, j2, j3, j4⟩ := ih (i + 1) N D1 V' (by omega) (by omega) i4 i3
    refine ⟨b', D2, j1, ?_, j3, j4⟩
    rw [fn_62_19, if_neg (nle (by omega) (by omega) (by omega)), i2]
    dsimp only
    rw [nI_up]
    exact j2
/-- into which bin the K-th ball comes -/
theorem r_bin {K : Nat} (h : rel A D) (hg : ig A) (hm : 0 < A 8 0) (hK : K < 1000) : ∃ b D1, b < 5 ∧ fn_63 (Int32.ofNat K) D = some (Int32.ofNat b, 0, D1) ∧ rel A D1 ∧ ∀ j, 20 ≤ j → ar A (K + 1) j = ar A K j + (if j = 20 + b then 1 else 0) := by
  have n0 : ¬ Int32.ofNat K < 0 := nI_pos (n := K) (by omega)
  have n1 : Int32.ofNat K < 1000 := ilt (b := 1000) (by omega) (by omega) hK
  obtain ⟨Dc, w1, w2⟩ := RS_0 h
  obtain ⟨b, D1, i1, i2, i3, i4⟩ := lp_62 hg hm (show K ≤ 5000 by omega) K 0 100000 Dc _ (by omega) (by omega) fp_zero w2
  have i2' : fn_62_19 100000 (Int32.ofNat K) 0 Dc = some (Int32.ofNat b, D1) := i2
  refine ⟨b, D1, i1, ?_, i3, i4⟩
  unfold fn_63 fn_62 am_F
  rw [if_neg n0, if_pos n1, q_any h hg.1, if_neg (show ¬ A 8 0 = 0 by omega)]
  dsimp only
  rw [if_pos i01, w1]
  dsimp only
  rw [i2']
theorem r_bin0 {K : Nat} (h : rel A D) (hg : ig A) (hm : A 8 0 = 0) (hK : K < 1000) : fn_63 (Int32.ofNat K) D = some (-1, 0, D) := by
  have n0 : ¬ Int32.ofNat K < 0 := nI_pos (n := K) (by omega)
  have n1 : Int32.ofNat K < 1000 := ilt (b := 1000) (by omega) (by omega) hK
  unfold fn_63 fn_62
  rw [if_neg n0, if_pos n1, q_any h hg.1, if_pos hm]
  rfl
theorem lp_64 {b : Nat} (hg : ig A) (hm : 0 < A 8 0) (hb : b < 5) : ∀ (c i N : Nat) (Dc : am_DD) (V : Nat → Nat), i + c = 4096 → c < N → rl_fp (t0 A) (t1 A) (A 8 0) i V → RS A V Dc → (∀ i', i' ≤ i → ar A i' (20 + b) = 0) → ∃ y D1, fn_64_19 N (Int32.ofNat b) (Int32.ofNat i) Dc = some (y, D1) ∧ rel A D1 ∧ ((∃ f, y = Int32.ofNat f ∧ f < 4096 ∧ ar A f (20 + b) = 0 ∧ ar A (f + 1) (20 + b) = 1) ∨ ∀ i', i' ≤ 4096 → ar A i' (20 + b) = 0) := by
  intro c
  induction c with
  | zero =>
    intro i N Dc V hi hN hV hR h0
    obtain ⟨N, rfl⟩ := succ_of hN
    have q : (4096 : Int32) ≤ Int32.ofNat i := ile (a := 4096) (by omega) (by omega) (by omega)
    refine ⟨-1, Dc, ?_, hR.1, Or.inr fun i' hi' => h0 i' (by omega)⟩
    rw [fn_64_19, if_pos q]
  | succ c ih =>
    intro i N Dc V hi hN hV hR h0
    obtain ⟨N, rfl⟩ := succ_of hN
    have q : ¬ (4096 : Int32) ≤ Int32.ofNat i := nle (a := 4096) (by omega) (by omega) (by omega)
    obtain ⟨b', D1, V', i1, i2, i3, i4, i5⟩ := roll1 hg hm hV hR
    have hv : ar A (i + 1) (20 + b) = if 20 + b = 20 + b' then 1 else 0 := by
      have := h0 i (Nat.le_refl _)
      rw [ar_pos hm, ← fp_bs hg hV] at this
      rw [ar_pos hm, ← fp_bs hg i4, i5 _ (by omega), this, Nat.zero_add]
    by_cases hbb : b' = b
    · subst hbb
      refine ⟨Int32.ofNat i, D1, ?_, i3.1, Or.inl ⟨i, rfl, by omega, h0 i (Nat.le_refl _), by rw [hv, if_pos rfl]⟩⟩
      rw [fn_64_19, if_neg q, i2]
      dsimp only
      rw [if_neg (not_not_intro rfl)]
    · have nbb : ¬ Int32.ofNat b' = Int32.ofNat b := ine (by omega) (by omega) hbb
      obtain ⟨y, D2, j1, j2, j3⟩ := ih (i + 1) N D1 V' (by omega) (by omega) i4 i3 (fun i' hi' => by
        by_cases w : i' = i + 1
        · rw [w, hv, if_neg (by omega)]
        · exact h0 i' (by omega))
      refine ⟨y, D2, ?_, j2, j3⟩
      rw [fn_64_19, if_neg q, i2]
      dsimp only
      rw [if_pos nbb, nI_up]
      exact j1
theorem r_first {b : Nat} (h : rel A D) (hg : ig A) (hm : 0 < A 8 0) (hb : b < 5) : ∃ y D1, fn_65 (Int32.ofNat b) D = some (y, 0, D1) ∧ rel A D1 ∧ ((∃ f, y = Int32.ofNat f ∧ f < 4096 ∧ ar A f (20 + b) = 0 ∧ ar A (f + 1) (20 + b) = 1) ∨ ∀ i', i' ≤ 4096 → ar A i' (20 + b) = 0) := by
  obtain ⟨Dc, w1, w2⟩ := RS_0 h
  obtain ⟨y, D1, i1, i2, i3⟩ := lp_64 hg hm hb 4096 0 100000 Dc _ (by omega) (by omega) fp_zero w2 (fun i' hi' => by
    have e : i' = 0 := by omega
    rw [e, ar_pos hm, ← fp_bs hg fp_zero])
  have i1' : fn_64_19 100000 (Int32.ofNat b) 0 Dc = some (y, D1) := i1
  refine ⟨y, D1, ?_, i2, i3⟩
  unfold fn_65 fn_64 am_F
  rw [q_bin hb]
  dsimp only
  rw [if_pos i01, q_any h hg.1, if_neg (show ¬ A 8 0 = 0 by omega)]
  dsimp only
  rw [if_pos i01, w1]
  dsimp only
  rw [i1']
theorem r_first0 {b : Nat} (h : rel A D) (hg : ig A) (hm : A 8 0 = 0) (hb : b < 5) : fn_65 (Int32.ofNat b) D = some (-1, 0, D) := by
  unfold fn_65 fn_64
  rw [q_bin hb]
  dsimp only
  rw [if_pos i01, q_any h hg.1, if_pos hm]
  rfl
end VR2
