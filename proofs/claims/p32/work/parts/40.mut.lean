/-! the calls that change: saving, gate, lead, flip, set, empty, drop -/
theorem ps_hit {d a k : Nat} (hd : 59 ≤ d) (ha : a < 59) : ru_hit d a k ru_lay = false := by
  unfold ru_hit
  rw [List.any_eq_false]
  intro e _
  simp only [Bool.and_eq_true, decide_eq_true_eq]
  omega
theorem ps_lay : ∀ e ∈ ru_lay, e.1 < 32 := by decide +kernel
theorem push {A : nD} {D : am_DD} (h : rel A D) : ∃ D', fn_79 D = some (0, D') ∧ rel A D' := by
  obtain ⟨o, c, h1, h2, h3, h4⟩ := h.2
  have f73 : ∀ (D : am_DD) (x : Nat), x ≤ 6 → D 56 1 = Int32.ofNat o → fn_73 (Int32.ofNat x) D = some (Int32.ofNat ((o + x) % 6), D) := fun D x hx hD => by
    unfold fn_73
    rw [hD, n_add]
    have := n_mod (a := o + x) (b := 6) (by omega) (by omega) (by omega)
    rw [← this]
    rfl
  have hp : (o + c) % 6 < 6 := Nat.mod_lt _ (by decide)
  generalize hP : (o + c) % 6 = p at hp
  have f1 := f73 D c h4 h1
  rw [hP, ← h3] at f1
  have n0 : ¬ Int32.ofNat p < 0 := nI_pos (n := p) (by omega)
  have st : sh_store_57 (Int32.ofNat p) D = some (rw_put (ru_cpf 1 (59 + 32 * p) ru_lay D) 252 6 (Int32.ofNat p) 1) := by
    unfold sh_store_57 sh_store
    rw [if_neg n0, c_ofNat (by omega), if_neg (by omega)]
  have row : ∀ a, a < 59 → rw_put (ru_cpf 1 (59 + 32 * p) ru_lay D) 252 6 (Int32.ofNat p) 1 a = D a := fun a ha => by
    rw [rw_put_row (by omega)]
    funext k
    rw [ru_cpf_at (by omega) ru_lay ps_lay, ps_hit (by omega) ha]
    rfl
  generalize hD4 : rw_put (ru_cpf 1 (59 + 32 * p) ru_lay D) 252 6 (Int32.ofNat p) 1 = D4 at st row
  have r4 : rel A D4 := h.row fun a ha => row a (by omega)
  have e2 : D4 56 2 = Int32.ofNat c := by rw [row 56 (by omega), h3]
  have e1 : D4 56 1 = Int32.ofNat o := by rw [row 56 (by omega), h1]
  unfold fn_79
  rw [f1]
  dsimp only
  rw [st]
  dsimp only
  rw [e2]
  by_cases h6 : 6 ≤ c
  · have q6 : (6 : Int32) ≤ Int32.ofNat c := ile (a := 6) (by omega) (by omega) h6
    have f2 : fn_73 1 D4 = some (Int32.ofNat ((o + 1) % 6), D4) := f73 D4 1 (by omega) e1
    rw [if_pos q6, f2]
    refine ⟨_, rfl, ⟨fun a k hl => ?_, ⟨(o + 1) % 6, c, u_self _ _ _ _, Nat.mod_lt _ (by decide), by rw [u_ne (by omega), e2], h4⟩⟩⟩
    have := live_lt hl
    rw [u_row (by omega)]
    exact r4.1 a k hl
  · have q6 : ¬ (6 : Int32) ≤ Int32.ofNat c := nle (a := 6) (by omega) (by omega) (by omega)
    rw [if_neg q6, nI_up]
    refine ⟨_, rfl, ⟨fun a k hl => ?_, ⟨o, c + 1, by rw [u_ne (by omega), e1], h2, u_self _ _ _ _, by omega⟩⟩⟩
    have := live_lt hl
    rw [u_row (by omega)]
    exact r4.1 a k hl
section MUT
variable {A : nD} {D : am_DD} {B : Nat}
theorem q_pitch {p : Nat} (hp : p ≤ 30) : fn_71 (Int32.ofNat p) D = some (1, D) := by
  have n0 : ¬ Int32.ofNat p < 0 := nI_pos (n := p) (by omega)
  have n1 : ¬ (31 : Int32) ≤ Int32.ofNat p := nle (a := 31) (by omega) (by omega) (by omega)
  unfold fn_71
  rw [if_neg n0, if_neg n1]
theorem q_hast (h : rel A D) (hm : A 8 0 ≤ 12) {t : Nat} (ht : t < A 8 0 ∨ (20 ≤ t ∧ t < 25)) : fn_55 (Int32.ofNat t) D = some (1, D) := by
  unfold fn_55
  by_cases z : t < A 8 0
  · rw [q_ex h hm z]
    dsimp only
    rw [if_pos i01]
  · have n1 : ¬ Int32.ofNat t < 20 := nlt (b := 20) (by omega) (by omega) (by omega)
    have n2 : ¬ (25 : Int32) ≤ Int32.ofNat t := nle (a := 25) (by omega) (by omega) (by omega)
    rw [q_nex h hm (by omega) (by omega)]
    dsimp only
    rw [if_neg (not_not_intro rfl), if_neg n1, if_neg n2]
/-! gate -/
def A_gate (A : nD) (p : Nat) : nD := nup (nup (nup (nup A 8 0 (A 8 0 + 1)) 12 (A 8 0) p) 16 (2 * A 8 0) 20) 16 (2 * A 8 0 + 1) 20
theorem m_gate (h : rel A D) (hm : A 8 0 < 12) {p : Nat} (hp : p ≤ 30) : ∃ D', fn_81 (Int32.ofNat p) D = some (Int32.ofNat (A 8 0), 0, D') ∧ rel (A_gate A p) D' := by
  obtain ⟨D1, d1, r1⟩ := push h
  have n12 : ¬ (12 : Int32) ≤ Int32.ofNat (A 8 0) := nle (a := 12) (by omega) (by omega) hm
  have f72 : fn_72 D = some (1, D) := by
    unfold fn_72
    rw [h.a8, if_neg n12]
  have e2 : (2 : Int32) * Int32.ofNat (A 8 0) = Int32.ofNat (2 * A 8 0) := n_mul 2 _
  have r2 := (((r1.up 8 0 (A 8 0 + 1) (by decide)).up 12 (A 8 0) p (by decide)).up 16 (2 * A 8 0) 20 (by decide)).up 16 (2 * A 8 0 + 1) 20 (by decide)
  refine ⟨_, ?_, r2⟩
  unfold fn_81
  rw [q_pitch hp]
  dsimp only
  rw [if_pos i01, f72]
  dsimp only
  rw [if_pos i01, d1]
  dsimp only
  unfold fn_80
  rw [r1.a8, nI_up, e2, nI_up, rw_put_nI (by omega) (by decide), rw_put_nI (by omega) (by decide), rw_put_nI (by omega) (by decide)]
  rfl
theorem i_gate (hi : inv A) (hm : A 8 0 < 12) {p : Nat} (hp : p ≤ 30) : inv (A_gate A p) := by
  obtain ⟨⟨g1, g2, g3, g4⟩, ⟨b1, b2, b3, b4⟩, ⟨m1, m2, m3, m4, m5⟩, w⟩ := hi
  have e8 : A_gate A p 8 0 = A 8 0 + 1 := by unfold A_gate; rw [nu_ne (by omega), nu_ne (by omega), nu_ne (by omega), nu_self]
  have e12 : ∀ k, A_gate A p 12 k = if k = A 8 0 then p else A 12 k := fun k => by
    unfold A_gate
    rw [nu_ne (by omega), nu_ne (by omega)]
    by_cases z : k = A 8 0
    · rw [if_pos z, z, nu_self]
    · rw [if_neg z, nu_ne (fun q => z q.2), nu_ne (by omega)]
  have e16 : ∀ k, A_gate A p 16 k = if k = 2 * A 8 0 ∨ k = 2 * A 8 0 + 1 then 20 else A 16 k := fun k => by
    unfold A_gate
    by_cases z : k = 2 * A 8 0 + 1
    · rw [z, nu_self, if_pos (Or.inr rfl)]
    · rw [nu_ne (fun q => z q.2)]
      by_cases z2 : k = 2 * A 8 0
      · rw [z2, nu_self, if_pos (Or.inl rfl)]
      · rw [nu_ne (fun q => z2 q.2), nu_ne (by omega), nu_ne (by omega), if_neg (by omega)]
  have er : ∀ a, a ≠ 8 → a ≠ 12 → a ≠ 16 → A_gate A p a = A a := fun a h1 h2 h3 => by
    unfold A_gate
    rw [nu_row h3, nu_row h3, nu_row h2, nu_row h1]
  have el : lvs (A_gate A p) = lvs A := lvs_cg (er 18 (by decide) (by decide) (by decide))
  have lm : lvs A (A 8 0) = 0 := by
    have := g4 (A 8 0) (Nat.le_refl _) hm
    unfold lvs
    omega
  refine ⟨⟨by omega, fun g hg => ?_, fun g e hg he => ?_, fun g h1 h2 => ?_⟩, ⟨?_, ?_, fun r hr => ?_, ?_⟩, ⟨?_, ?_, ?_, ?_, ?_⟩, ?_⟩
  · rw [e12, el, er 10 (by decide) (by decide) (by decide), er 14 (by decide) (by decide) (by decide), er 18 (by decide) (by decide) (by decide)]
    by_cases z : g = A 8 0
    · have q := g4 g (by omega) (by omega)
      have ql : lvs A g = 0 := by rw [z]; exact lm
      rw [if_pos z, ql]
      refine ⟨hp, by omega, by omega, fun _ => by omega⟩
    · rw [if_neg z]
      exact g2 g (by omega)
  · rw [e16, e8]
    by_cases z : g = A 8 0
    · rw [if_pos (by omega)]
      omega
    · have := g3 g e (by omega) he
      rw [if_neg (by omega)]
      omega
  · rw [e8] at h1
    rw [er 10 (by decide) (by decide) (by decide), er 14 (by decide) (by decide) (by decide), er 18 (by decide) (by decide) (by decide)]
    exact g4 g (by omega) h2
  · rw [er 19 (by decide) (by decide) (by decide), er 1 (by decide) (by decide) (by decide), er 5 (by decide) (by decide) (by decide)]
    exact b1
  · rw [er 19 (by decide) (by decide) (by decide), er 1 (by decide) (by decide) (by decide), er 7 (by decide) (by decide) (by decide)]
    exact b2
  · rw [er 19 (by decide) (by decide) (by decide)] at hr
    rw [e8, er 21 (by decide) (by decide) (by decide), er 23 (by decide) (by decide) (by decide), er 25 (by decide) (by decide) (by decide), er 1 (by decide) (by decide) (by decide)]
    have := b3 r hr
    omega
  · rw [er 19 (by decide) (by decide) (by decide), er 23 (by decide) (by decide) (by decide)]
    exact b4
  · rw [el, e8, er 26 (by decide) (by decide) (by decide), sm, lm, m1, Nat.add_zero]
  · rw [er 26 (by decide) (by decide) (by decide)]
    exact m2
  · rw [er 26 (by decide) (by decide) (by decide)]
    exact m3
  · rw [nb_cg (A := A) (er 26 (by decide) (by decide) (by decide)) (er 28 (by decide) (by decide) (by decide)), np_cg (A := A) (er 26 (by decide) (by decide) (by decide)) (er 32 (by decide) (by decide) (by decide)), er 26 (by decide) (by decide) (by decide), er 1 (by decide) (by decide) (by decide)]
    exact m4
  · rw [nb_cg (A := A) (er 26 (by decide) (by decide) (by decide)) (er 28 (by decide) (by decide) (by decide)), er 26 (by decide) (by decide) (by decide)]
    exact m5
  · exact iw_cg (by rw [er 1 (by decide) (by decide) (by decide)]) (er 3 (by decide) (by decide) (by decide)) w
theorem n_gate {p : Nat} (hb : bnd B A) : bnd B (A_gate A p) := by
  have er : ∀ a, a ≠ 8 → a ≠ 12 → a ≠ 16 → A_gate A p a = A a := fun a h1 h2 h3 => by
    unfold A_gate
    rw [nu_row h3, nu_row h3, nu_row h2, nu_row h1]
  exact bnd_cg (by rw [er 1 (by decide) (by decide) (by decide)]) (by rw [er 1 (by decide) (by decide) (by decide)]) (er 14 (by decide) (by decide) (by decide)) (er 26 (by decide) (by decide) (by decide)) hb
/-! lead -/
theorem m_lead (h : rel A D) (hm : A 8 0 ≤ 12) {g e t : Nat} (hg : g < A 8 0) (he : e < 2) (hgt : g < t) (ht : t < A 8 0 ∨ (20 ≤ t ∧ t < 25)) : ∃ D', fn_85 (Int32.ofNat g) (Int32.ofNat e) (Int32.ofNat t) D = some (Int32.ofNat (A 16 (2 * g + e)), 0, D') ∧ rel (nup A 16 (2 * g + e) t) D' := by
  obtain ⟨D1, d1, r1⟩ := push h
  refine ⟨_, ?_, r1.up 16 (2 * g + e) t (by decide)⟩
  have f82 : fn_82 (Int32.ofNat g) (Int32.ofNat e) D = some (1, D) := by
    unfold fn_82
    rw [q_ex h hm hg]
    dsimp only
    rw [if_neg i01]
    obtain rfl | rfl : e = 0 ∨ e = 1 := by omega
    · rw [if_pos (show Int32.ofNat 0 = 0 from rfl)]
    · rw [if_neg (by decide), if_neg (by decide)]
  unfold fn_85
  rw [f82]
  dsimp only
  rw [if_neg i01, q_hast h hm ht]
  dsimp only
  rw [if_pos i01, if_pos (ilt (by omega) (by omega) hgt), d1]
  dsimp only
  unfold fn_84
  rw [gx, rw_at_nI (by omega) (by decide), rw_put_nI (by omega) (by decide), r1.a16 (by omega)]
theorem i_lead (hi : inv A) {g e t : Nat} (hg : g < A 8 0) (he : e < 2) (hgt : g < t) (ht : t < A 8 0 ∨ (20 ≤ t ∧ t < 25)) : inv (nup A 16 (2 * g + e) t) := by
  obtain ⟨⟨g1, g2, g3, g4⟩, b, m, w⟩ := hi
  have er : ∀ a, a ≠ 16 → nup A 16 (2 * g + e) t a = A a := fun a h => nu_row h
  refine ⟨⟨by rw [er 8 (by decide)]; exact g1, fun g' hg' => ?_, fun g' e' hg' he' => ?_, fun g' h1 h2 => ?_⟩, ib_cg (by rw [er 1 (by decide)]) (by rw [er 1 (by decide)]) (by rw [er 1 (by decide)]) (er 5 (by decide)) (er 7 (by decide)) (er 8 (by decide)) (er 19 (by decide)) (er 21 (by decide)) (er 23 (by decide)) (er 25 (by decide)) b, im_cg (by rw [er 1 (by decide)]) (er 8 (by decide)) (er 18 (by decide)) (er 26 (by decide)) (er 28 (by decide)) (er 32 (by decide)) m, iw_cg (by rw [er 1 (by decide)]) (er 3 (by decide)) w⟩
  · rw [er 8 (by decide)] at hg'
    rw [lvs_cg (er 18 (by decide)), er 12 (by decide), er 10 (by decide), er 14 (by decide), er 18 (by decide)]
    exact g2 g' hg'
  · rw [er 8 (by decide)] at hg' ⊢
    by_cases z : 2 * g' + e' = 2 * g + e
    · rw [z, nu_self]
      omega
    · rw [nu_ne (fun q => z q.2)]
      exact g3 g' e' hg' he'
  · rw [er 8 (by decide)] at h1
    rw [er 10 (by decide), er 14 (by decide), er 18 (by decide)]
    exact g4 g' h1 h2
theorem n_lead {k t : Nat} (hb : bnd B A) : bnd B (nup A 16 k t) := bnd_cg (by rw [nu_row (by decide)]) (by rw [nu_row (by decide)]) (nu_row (by decide)) (nu_row (by decide)) hb
/-! flip -/
def A_flip (A : nD) (g : Nat) : nD := nup (nup A 14 g (A 14 g + 1)) 10 g (1 - A 10 g)
theorem m_flip (h : rel A D) (hi : ig A) {g : Nat} (hg : g < A 8 0) : ∃ D', fn_87 (Int32.ofNat g) D = some (Int32.ofNat (1 - A 10 g), 0, D') ∧ rel (A_flip A g) D' := by
  obtain ⟨D1, d1, r1⟩ := push h
  have hm := hi.1
  have hs := (hi.2.1 g hg).2.1
  have e1 : (1 : Int32) - Int32.ofNat (A 10 g) = Int32.ofNat (1 - A 10 g) := n_sub (a := 1) hs (by omega)
  refine ⟨_, ?_, (r1.up 14 g (A 14 g + 1) (by decide)).up 10 g (1 - A 10 g) (by decide)⟩
  unfold fn_87
  rw [q_ex h hm hg]
  dsimp only
  rw [if_pos i01, d1]
  dsimp only
  unfold fn_86
  have a1 : rw_at ((am_upd D1 14 g (D1 14 g + 1)) 10) 12 (Int32.ofNat g) = Int32.ofNat (A 10 g) := by rw [rw_at_nI (by omega) (by decide), u_row (show 10 ≠ 14 by decide), r1.a10 (by omega)]
  rw [rw_raise_nI (by omega) (by decide), a1, e1, rw_put_nI (by omega) (by decide), rw_at_nI (by omega) (by decide), u_self, r1.a14 (by omega), nI_up]
theorem i_flip (hi : inv A) {g : Nat} (hg : g < A 8 0) : inv (A_flip A g) := by
  obtain ⟨⟨g1, g2, g3, g4⟩, b, m, w⟩ := hi
  have er : ∀ a, a ≠ 14 → a ≠ 10 → A_flip A g a = A a := fun a h h2 => by
    unfold A_flip
    rw [nu_row h2, nu_row h]
  have e10 : ∀ k, A_flip A g 10 k = if k = g then 1 - A 10 g else A 10 k := fun k => by
    unfold A_flip
    by_cases z : k = g
    · rw [if_pos z, z, nu_self]
    · rw [if_neg z, nu_ne (fun q => z q.2), nu_ne (by omega)]
  have e14 : ∀ k, A_flip A g 14 k = if k = g then A 14 g + 1 else A 14 k := fun k => by
    unfold A_flip
    rw [nu_ne (by omega)]
    by_cases z : k = g
    · rw [if_pos z, z, nu_self]
    · rw [if_neg z, nu_ne (fun q => z q.2)]
  refine ⟨⟨by rw [er 8 (by decide) (by decide)]; exact g1, fun g' hg' => ?_, fun g' e' hg' he' => ?_, fun g' h1 h2 => ?_⟩, ib_cg (by rw [er 1 (by decide) (by decide)]) (by rw [er 1 (by decide) (by decide)]) (by rw [er 1 (by decide) (by decide)]) (er 5 (by decide) (by decide)) (er 7 (by decide) (by decide)) (er 8 (by decide) (by decide)) (er 19 (by decide) (by decide)) (er 21 (by decide) (by decide)) (er 23 (by decide) (by decide)) (er 25 (by decide) (by decide)) b, im_cg (by rw [er 1 (by decide) (by decide)]) (er 8 (by decide) (by decide)) (er 18 (by decide) (by decide)) (er 26 (by decide) (by decide)) (er 28 (by decide) (by decide)) (er 32 (by decide) (by decide)) m, iw_cg (by rw [er 1 (by decide) (by decide)]) (er 3 (by decide) (by decide)) w⟩
  · rw [er 8 (by decide) (by decide)] at hg'
    rw [lvs_cg (er 18 (by decide) (by decide)), er 12 (by decide) (by decide), e10, e14, er 18 (by decide) (by decide)]
    have q := g2 g' hg'
    by_cases z : g' = g
    · rw [z] at q
      rw [if_pos z, if_pos z, z]
      omega
    · rw [if_neg z, if_neg z]
      exact q
  · rw [er 8 (by decide) (by decide)] at hg' ⊢
    rw [er 16 (by decide) (by decide)]
    exact g3 g' e' hg' he'
  · rw [er 8 (by decide) (by decide)] at h1
    rw [e10, e14, if_neg (by omega), if_neg (by omega), er 18 (by decide) (by decide)]
    exact g4 g' h1 h2
theorem n_flip {g : Nat} (hb : bnd B A) (hB : B + 1 < 2 ^ 24) : bnd (B + 1) (A_flip A g) := by
  obtain ⟨b1, b2, b3, b4, b5⟩ := hb
  have er : ∀ a, a ≠ 14 → a ≠ 10 → A_flip A g a = A a := fun a h h2 => by
    unfold A_flip
    rw [nu_row h2, nu_row h]
  refine ⟨by rw [er 1 (by decide) (by decide)]; omega, fun k hk => ?_, by rw [er 26 (by decide) (by decide), er 1 (by decide) (by decide)]; exact b3, by rw [er 1 (by decide) (by decide)]; exact b4, hB⟩
  unfold A_flip
  rw [nu_ne (by omega)]
  have := b2 k hk
  by_cases z : k = g
  · rw [z, nu_self]
    rw [z] at this
    omega
  · rw [nu_ne (fun q => z q.2)]
    omega
/-! set -/
theorem m_set (h : rel A D) {i v : Nat} (hv : (i = 0 ∧ 1 ≤ v ∧ v ≤ 9) ∨ (i = 1 ∧ 1 ≤ v ∧ v ≤ 40)) : ∃ D', fn_88 (Int32.ofNat i) (Int32.ofNat v) D = some (Int32.ofNat (A 3 i), 0, D') ∧ rel (nup A 3 i v) D' := by
  obtain ⟨D1, d1, r1⟩ := push h
  refine ⟨_, ?_, r1.up 3 i v (by decide)⟩
  have n1 : ¬ Int32.ofNat v < 1 := nlt (b := 1) (by omega) (by omega) (by omega)
  have e0 : Int32.ofNat 0 = 0 := rfl
  have e1 : Int32.ofNat 1 = 1 := rfl
  rcases hv with ⟨rfl, h1, h2⟩ | ⟨rfl, h1, h2⟩
  · have n9 : Int32.ofNat v ≤ 9 := ile (b := 9) (by omega) (by omega) h2
    have a0 : rw_at (D1 3) 2 (Int32.ofNat 0) = Int32.ofNat (A 3 0) := by rw [rw_at_nI (by decide) (by decide), r1.a3 (by decide)]
    have p0 : rw_put D1 3 2 (Int32.ofNat 0) (Int32.ofNat v) = am_upd D1 3 0 (Int32.ofNat v) := rw_put_nI (by decide) (by decide)
    unfold fn_88
    rw [e0, if_pos rfl, if_neg n1, if_neg (by decide), if_pos n9, d1]
    dsimp only
    rw [← e0, a0, p0]
  · have n40 : Int32.ofNat v ≤ 40 := ile (b := 40) (by omega) (by omega) h2
    have a1 : rw_at (D1 3) 2 (Int32.ofNat 1) = Int32.ofNat (A 3 1) := by rw [rw_at_nI (by decide) (by decide), r1.a3 (by decide)]
    have p1 : rw_put D1 3 2 (Int32.ofNat 1) (Int32.ofNat v) = am_upd D1 3 1 (Int32.ofNat v) := rw_put_nI (by decide) (by decide)
    unfold fn_88
    rw [e1, if_neg (by decide), if_pos rfl, if_neg n1, if_pos (by decide), if_pos n40, d1]
    dsimp only
    rw [← e1, a1, p1]
theorem i_set (hi : inv A) {i v : Nat} (hv : (i = 0 ∧ 1 ≤ v ∧ v ≤ 9) ∨ (i = 1 ∧ 1 ≤ v ∧ v ≤ 40)) : inv (nup A 3 i v) := by
  obtain ⟨g, b, m, w1, w2, w3, w4, w5⟩ := hi
  have er : ∀ a, a ≠ 3 → nup A 3 i v a = A a := fun a h => nu_row h
  refine ⟨ig_cg (er 8 (by decide)) (er 10 (by decide)) (er 12 (by decide)) (er 14 (by decide)) (er 16 (by decide)) (er 18 (by decide)) g, ib_cg (by rw [er 1 (by decide)]) (by rw [er 1 (by decide)]) (by rw [er 1 (by decide)]) (er 5 (by decide)) (er 7 (by decide)) (er 8 (by decide)) (er 19 (by decide)) (er 21 (by decide)) (er 23 (by decide)) (er 25 (by decide)) b, im_cg (by rw [er 1 (by decide)]) (er 8 (by decide)) (er 18 (by decide)) (er 26 (by decide)) (er 28 (by decide)) (er 32 (by decide)) m, ?_⟩
  unfold iw
  rw [er 1 (by decide)]
  rcases hv with ⟨rfl, h1, h2⟩ | ⟨rfl, h1, h2⟩
  · rw [nu_self, nu_ne (by omega)]
    omega
  · rw [nu_self, nu_ne (by omega)]
    omega
theorem n_set {k t : Nat} (hb : bnd B A) : bnd B (nup A 3 k t) := bnd_cg (by rw [nu_row (by decide)]) (by rw [nu_row (by decide)]) (nu_row (by decide)) (nu_row (by decide)) hb
/-! empty -/
def A_empty (A : nD) (b : Nat) : nD := nup (nup A 5 b 0) 1 1 (A 1 1 + A 5 b)
theorem m_empty (h : rel A D) {b : Nat} (hb : b < 5) : ∃ D', fn_90 (Int32.ofNat b) D = some (Int32.ofNat (A 5 b), 0, D') ∧ rel (A_empty A b) D' := by
  obtain ⟨D1, d1, r1⟩ := push h
  have z0 : (0 : Int32) = Int32.ofNat 0 := rfl
  refine ⟨_, ?_, (r1.up 5 b 0 (by decide)).up 1 1 (A 1 1 + A 5 b) (by decide)⟩
  unfold fn_90
  rw [q_bin hb]
  dsimp only
  rw [if_pos i01, d1]
  dsimp only
  unfold fn_89
  rw [rw_at_nI hb (by decide), rw_put_nI hb (by decide), u_row (show 1 ≠ 5 by decide), r1.a5 hb, r1.a1 (by decide), n_add]
  rfl
theorem i_empty (hi : inv A) {b : Nat} (hb : b < 5) : inv (A_empty A b) := by
  obtain ⟨g, ⟨b1, b2, b3, b4⟩, m, w⟩ := hi
  have er : ∀ a, a ≠ 5 → a ≠ 1 → A_empty A b a = A a := fun a h h2 => by
    unfold A_empty
    rw [nu_row h2, nu_row h]
  have e1 : ∀ k, k ≠ 1 → A_empty A b 1 k = A 1 k := fun k hk => by
    unfold A_empty
    rw [nu_ne (fun q => hk q.2), nu_ne (by omega)]
  have e11 : A_empty A b 1 1 = A 1 1 + A 5 b := nu_self _ _ _ _
  have e5 : ∀ k, A_empty A b 5 k = if k = b then 0 else A 5 k := fun k => by
    unfold A_empty
    rw [nu_ne (by omega)]
    by_cases z : k = b
    · rw [if_pos z, z, nu_self]
    · rw [if_neg z, nu_ne (fun q => z q.2)]
  refine ⟨ig_cg (er 8 (by decide) (by decide)) (er 10 (by decide) (by decide)) (er 12 (by decide) (by decide)) (er 14 (by decide) (by decide)) (er 16 (by decide) (by decide)) (er 18 (by decide) (by decide)) g, ⟨?_, ?_, ?_, ?_⟩, im_cg (e1 0 (by decide)) (er 8 (by decide) (by decide)) (er 18 (by decide) (by decide)) (er 26 (by decide) (by decide)) (er 28 (by decide) (by decide)) (er 32 (by decide) (by decide)) m, iw_cg (e1 2 (by decide)) (er 3 (by decide) (by decide)) w⟩
  · rw [er 19 (by decide) (by decide), e11, e5, e5, e5, e5, e5]
    obtain rfl | rfl | rfl | rfl | rfl : b = 0 ∨ b = 1 ∨ b = 2 ∨ b = 3 ∨ b = 4 := by omega
    all_goals simp
    all_goals omega
  · rw [er 19 (by decide) (by decide), er 7 (by decide) (by decide), e1 3 (by decide)]
    exact b2
  · rw [er 19 (by decide) (by decide), er 21 (by decide) (by decide), er 8 (by decide) (by decide), er 25 (by decide) (by decide), er 23 (by decide) (by decide), e1 0 (by decide)]
    exact b3
  · rw [er 19 (by decide) (by decide), er 23 (by decide) (by decide)]
    exact b4
theorem n_empty {b : Nat} (hb : bnd B A) : bnd B (A_empty A b) := by
  have e1 : ∀ k, k ≠ 1 → A_empty A b 1 k = A 1 k := fun k hk => by
    unfold A_empty
    rw [nu_ne (fun q => hk q.2), nu_ne (by omega)]
  have er : ∀ a, a ≠ 5 → a ≠ 1 → A_empty A b a = A a := fun a h h2 => by
    unfold A_empty
    rw [nu_row h2, nu_row h]
  exact bnd_cg (e1 0 (by decide)) (e1 3 (by decide)) (er 14 (by decide) (by decide)) (er 26 (by decide) (by decide)) hb
/-! drop -/
theorem m_drop (h : rel A D) (hw : iw A) {c : Nat} (h1 : 1 ≤ c) (h2 : c ≤ 40) : (A 1 2 + c ≤ 200 → ∃ D', fn_93 (Int32.ofNat c) D = some (Int32.ofNat (A 1 2 + c), 0, D') ∧ rel (nup A 1 2 (A 1 2 + c)) D') ∧ (200 < A 1 2 + c → fn_93 (Int32.ofNat c) D = some (0, 2, D)) := by
  have hw2 := hw.2.2.2.2
  have n1 : ¬ Int32.ofNat c < 1 := nlt (b := 1) (by omega) (by omega) (by omega)
  have n40 : Int32.ofNat c ≤ 40 := ile (b := 40) (by omega) (by omega) h2
  constructor
  · intro hc
    obtain ⟨D1, d1, r1⟩ := push h
    refine ⟨_, ?_, r1.up 1 2 (A 1 2 + c) (by decide)⟩
    have n200 : ¬ (200 : Int32) < Int32.ofNat (A 1 2 + c) := nlt (a := 200) (by omega) (by omega) hc
    unfold fn_93 fn_91
    rw [if_neg n1, if_pos n40, h.a1 (by decide), n_add, if_neg n200]
    dsimp only
    rw [if_pos i01, d1]
    dsimp only
    unfold fn_92
    rw [u_self, r1.a1 (by decide), n_add]
  · intro hc
    have n200 : (200 : Int32) < Int32.ofNat (A 1 2 + c) := ilt (a := 200) (by omega) (by omega) hc
    unfold fn_93 fn_91
    rw [if_neg n1, if_pos n40, h.a1 (by decide), n_add, if_pos n200]
    dsimp only
    rw [if_neg (not_not_intro rfl)]
theorem i_drop (hi : inv A) {c : Nat} (hc : c ≤ 200) : inv (nup A 1 2 c) := by
  obtain ⟨g, b, m, w1, w2, w3, w4, w5⟩ := hi
  have er : ∀ a, a ≠ 1 → nup A 1 2 c a = A a := fun a h => nu_row h
  have e1 : ∀ k, k ≠ 2 → nup A 1 2 c 1 k = A 1 k := fun k hk => nu_ne (fun q => hk q.2)
  refine ⟨ig_cg (er 8 (by decide)) (er 10 (by decide)) (er 12 (by decide)) (er 14 (by decide)) (er 16 (by decide)) (er 18 (by decide)) g, ib_cg (e1 0 (by decide)) (e1 1 (by decide)) (e1 3 (by decide)) (er 5 (by decide)) (er 7 (by decide)) (er 8 (by decide)) (er 19 (by decide)) (er 21 (by decide)) (er 23 (by decide)) (er 25 (by decide)) b, im_cg (e1 0 (by decide)) (er 8 (by decide)) (er 18 (by decide)) (er 26 (by decide)) (er 28 (by decide)) (er 32 (by decide)) m, ?_⟩
  unfold iw
  rw [er 3 (by decide), nu_self]
  omega
theorem n_drop {c : Nat} (hb : bnd B A) : bnd B (nup A 1 2 c) := bnd_cg (nu_ne (by omega)) (nu_ne (by omega)) (nu_row (by decide)) (nu_row (by decide)) hb
end MUT
