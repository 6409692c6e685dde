/-! one order and the whole text, as the class reads it -/
section VT6
variable {len : Nat} {T : Nat → Nat}
theorem cl_stop {D : am_DD} {N p : Nat} (ht : tx D len T) (hp : p ≤ len) (hN : len < N + p) (h : p < len → fn_116 (Int32.ofNat (T p)) D = some (0, D)) : fn_117_12 N (Int32.ofNat p) D = some (Int32.ofNat p, D) := by
  have l60 := ht.1
  obtain ⟨N, rfl⟩ : ∃ n', N = n' + 1 := ⟨N - 1, by omega⟩
  rw [fn_117_12, ht.2.1]
  by_cases w : p < len
  · rw [if_neg (n_nle (by omega) (by omega) w), rw_at_nI (k := p) (by omega) (by omega), (ht.2.2.2 p w).1, h w]
    rfl
  · have e : p = len := by omega
    rw [if_pos (n_ile (by omega) (by omega) (by omega)), e]
theorem cl_step {D D1 : am_DD} {N p : Nat} (ht : tx D len T) (hp : p < len) (hN : len < N + p) (h : fn_116 (Int32.ofNat (T p)) D = some (1, D1)) : ∃ N', fn_117_12 N (Int32.ofNat p) D = fn_117_12 N' (Int32.ofNat (p + 1)) D1 ∧ len < N' + (p + 1) := by
  have l60 := ht.1
  obtain ⟨N, rfl⟩ : ∃ n', N = n' + 1 := ⟨N - 1, by omega⟩
  refine ⟨N, ?_, by omega⟩
  rw [fn_117_12, ht.2.1, if_neg (n_nle (by omega) (by omega) hp), rw_at_nI (k := p) (by omega) (by omega), (ht.2.2.2 p hp).1, h]
  dsimp only
  rw [if_pos (by decide), nI_up]
/-- the class's text rows stand -/
theorem tx_cl {D D' : am_DD} (h : ∀ a j, ¬ (a = 45 ∧ (j = 2 ∨ j = 3)) → ¬ (a = 49 ∨ a = 51 ∨ a = 53 ∨ a = 55) → D' a j = D a j) (ht : tx D len T) : tx D' len T := by
  obtain ⟨t1, t2, t3, t4⟩ := ht
  refine ⟨t1, by rw [h 45 0 (by omega) (by omega)]; exact t2, by rw [h 321 6 (by omega) (by omega)]; exact t3, fun j hj => ?_⟩
  rw [h 47 j (by omega) (by omega), h 326 j (by omega) (by omega)]
  exact t4 j hj
theorem cl_dig {r i B : Nat} (Q : am_DD → Prop) (hQ : ∀ D v, Q D → Q (am_upd D r i v)) (hT : ∀ D, Q D → tx D len T) (hs : ∀ (D : am_DD) (p v : Nat), Q D → D r i = Int32.ofNat v → v ≤ B → p < len → v ≠ 0 ∧ 48 ≤ T p ∧ T p ≤ 57 ∧ 10 * v + T p - 48 ≤ B → fn_116 (Int32.ofNat (T p)) D = some (1, am_upd D r i (Int32.ofNat (10 * v + T p - 48)))) : ∀ (n p v N : Nat) (D : am_DD), Q D → D r i = Int32.ofNat v → v ≤ B → p ≤ len → len < N + p → ∃ D' N', fn_117_12 N (Int32.ofNat p) D = fn_117_12 N' (Int32.ofNat (nr T len B n p v).1) D' ∧ len < N' + (nr T len B n p v).1 ∧ D' r i = Int32.ofNat (nr T len B n p v).2 ∧ Q D' ∧ ∀ a j, ¬ (a = r ∧ j = i) → D' a j = D a j := by
  intro n
  induction n with
  | zero => intro p v N D h1 h2 h3 h4 h5; exact ⟨D, N, rfl, h5, h2, h1, fun _ _ _ => rfl⟩
  | succ n ih =>
    intro p v N D h1 h2 h3 h4 h5
    unfold nr
    by_cases w : v ≠ 0 ∧ p < len ∧ 48 ≤ T p ∧ T p ≤ 57 ∧ 10 * v + T p - 48 ≤ B
    · rw [if_pos w]
      obtain ⟨N1, s1, s2⟩ := cl_step (hT D h1) w.2.1 h5 (hs D p v h1 h2 h3 w.2.1 ⟨w.1, w.2.2⟩)
      obtain ⟨D', N', i1, i2, i3, i4, i5⟩ := ih (p + 1) (10 * v + T p - 48) N1 _ (hQ D _ h1) (u_self _ _ _ _) w.2.2.2.2 (by omega) s2
      exact ⟨D', N', s1.trans i1, i2, i3, i4, fun a j h => by rw [i5 a j h, u_ne h]⟩
    · rw [if_neg w]
      exact ⟨D, N, rfl, h5, h2, h1, fun _ _ _ => rfl⟩
theorem num_no {a B p : Nat} (h : num T len a B p = none) (hp : p < len) : ¬ (48 + a ≤ T p ∧ T p ≤ 57 ∧ T p - 48 ≤ B) := by
  intro w
  unfold num at h
  rw [if_pos ⟨hp, w⟩] at h
  cases h
theorem num_so {a B p e v : Nat} (h : num T len a B p = some (e, v)) : p < len ∧ (48 + a ≤ T p ∧ T p ≤ 57 ∧ T p - 48 ≤ B) ∧ nr T len B (60 - p) (p + 1) (T p - 48) = (e, v) := by
  unfold num at h
  by_cases w : p < len ∧ 48 + a ≤ T p ∧ T p ≤ 57 ∧ T p - 48 ≤ B
  · rw [if_pos w] at h
    exact ⟨w.1, w.2, Option.some.inj h⟩
  · rw [if_neg w] at h
    cases h
theorem nr_4 (n p v : Nat) : nr T len 4 n p v = (p, v) := by
  cases n with
  | zero => rfl
  | succ n =>
    unfold nr
    rw [if_neg (by omega)]
/-- the number of an order -/
theorem cl_n1 {D : am_DD} {N p i k a B : Nat} (ht : tx D len T) (h2 : D 45 2 = 1) (h3 : D 45 3 = Int32.ofNat i) (hi : i < 20) (hk : D 49 i = Int32.ofNat k) (kk : kd k = some (a, B)) (hp : p ≤ len) (hN : len < N + p) :
    (num T len a B p = none → fn_117_12 N (Int32.ofNat p) D = some (Int32.ofNat p, D)) ∧ ∀ e v, num T len a B p = some (e, v) → ∃ D' N', fn_117_12 N (Int32.ofNat p) D = fn_117_12 N' (Int32.ofNat e) D' ∧ len < N' + e ∧ D' 45 2 = 2 ∧ D' 51 i = Int32.ofNat v ∧ ∀ a j, ¬ (a = 51 ∧ j = i) → ¬ (a = 45 ∧ j = 2) → D' a j = D a j := by
  have kc := kd_c kk
  refine ⟨fun h => cl_stop ht hp hN (fun w => ?_), fun e v h => ?_⟩
  · have := num_no h w
    have tj := (ht.2.2.2 p w).2.2
    exact no_1 h2 h3 hi hk kk (by omega) (by omega)
  · obtain ⟨w, d, hn⟩ := num_so h
    have tj := (ht.2.2.2 p w).2.2
    obtain ⟨N1, s1, s2⟩ := cl_step ht w hN (go_1 h2 h3 hi hk kk ⟨d.1, d.2.1⟩)
    obtain ⟨D', N', i1, i2, i3, i4, i5⟩ := cl_dig (r := 51) (i := i) (B := B) (T := T) (len := len) (fun D => tx D len T ∧ D 45 2 = 2 ∧ D 45 3 = Int32.ofNat i ∧ D 49 i = Int32.ofNat k)
      (fun D v q => ⟨tx_cl (fun a j _ h => u_ne (fun z => h (by omega))) q.1, by rw [u_ne (by omega)]; exact q.2.1, by rw [u_ne (by omega)]; exact q.2.2.1, by rw [u_ne (by omega)]; exact q.2.2.2⟩)
      (fun D q => q.1)
      (fun D p v q hv hv2 hp d => go_2 q.2.1 q.2.2.1 hi q.2.2.2 kk hv hv2 d)
      (60 - p) (p + 1) (T p - 48) N1 (am_upd (am_upd D 51 i (Int32.ofNat (T p - 48))) 45 2 2) ⟨tx_cl (fun a j h1 h => by rw [u_ne (fun z => h1 (by omega)), u_ne (fun z => h (by omega))]) ht, u_self _ _ _ _, by rw [u_ne (by omega), u_ne (by omega)]; exact h3, by rw [u_ne (by omega), u_ne (by omega)]; exact hk⟩ (by rw [u_ne (by omega), u_self]) d.2.2 (by omega) s2
    rw [hn] at i1 i2 i3
    exact ⟨D', N', s1.trans i1, i2, i4.2.1, i3, fun a j h1 h2 => by rw [i5 a j h1, u_ne h2, u_ne h1]⟩
/-- the target -/
theorem cl_n3 {D : am_DD} {N p i : Nat} (ht : tx D len T) (h2 : D 45 2 = 3) (h3 : D 45 3 = Int32.ofNat i) (hi : i < 20) (hp : p ≤ len) (hN : len < N + p) :
    (∀ f, pq T len p = .inl f → ∃ D', fn_117_12 N (Int32.ofNat p) D = some (Int32.ofNat f, D') ∧ fn_104 D' = some (0, D') ∧ ∀ a j, ¬ (a = 55 ∧ j = i) → ¬ (a = 45 ∧ j = 2) → D' a j = D a j) ∧ ∀ e t, pq T len p = .inr (e, t) → ∃ D' N', fn_117_12 N (Int32.ofNat p) D = fn_117_12 N' (Int32.ofNat e) D' ∧ len < N' + e ∧ fn_104 D' = some (1, D') ∧ D' 55 i = Int32.ofNat t ∧ (∀ a j, ¬ (a = 55 ∧ j = i) → ¬ (a = 45 ∧ j = 2) → D' a j = D a j) ∧ (e < len → ¬ T e = 59 → fn_116 (Int32.ofNat (T e)) D' = some (0, D')) := by
  have l60 := ht.1
  unfold pq
  by_cases w : p < len ∧ T p = 98
  · rw [if_pos w]
    have g : fn_116 (Int32.ofNat (T p)) D = some (1, am_upd D 45 2 5) := by
      rw [w.2]
      exact go_3b h2
    obtain ⟨N1, s1, s2⟩ := cl_step ht w.1 hN g
    have ht1 : tx (am_upd D 45 2 5) len T := tx_cl (fun a j h1 h => by rw [u_ne (fun z => h1 (by omega))]) ht
    have a2 : am_upd D 45 2 5 45 2 = 5 := u_self _ _ _ _
    have a3 : am_upd D 45 2 5 45 3 = Int32.ofNat i := by rw [u_ne (by omega)]; exact h3
    cases hn : num T len 0 4 (p + 1) with
    | none =>
      refine ⟨fun f hf => ?_, fun e t hf => (by cases hf)⟩
      cases hf
      refine ⟨_, s1.trans (cl_stop ht1 (by omega) s2 (fun w1 => ?_)), cm_5 a2, fun a j _ h => u_ne h⟩
      have := num_no hn w1
      have tj := (ht.2.2.2 _ w1).2.2
      exact no_5 a2 (by omega) (by omega)
    | some q =>
      obtain ⟨e0, t0⟩ := q
      obtain ⟨w1, d, hr⟩ := num_so hn
      rw [nr_4] at hr
      refine ⟨fun f hf => (by cases hf), fun e t hf => ?_⟩
      cases hf
      cases hr
      obtain ⟨N2, s3, s4⟩ := cl_step ht1 w1 s2 (go_5 a2 a3 hi (show 48 ≤ T (p + 1) ∧ T (p + 1) ≤ 52 by omega))
      refine ⟨_, N2, s1.trans s3, s4, cm_6 (u_self _ _ _ _), by rw [u_ne (by omega), u_self], fun a j h1 h2 => by rw [u_ne h2, u_ne h1, u_ne h2], fun w2 h59 => ?_⟩
      have tj := (ht.2.2.2 _ w2).2.2
      exact no_6 (u_self _ _ _ _) (by omega) h59
  · rw [if_neg w]
    cases hn : num T len 0 11 p with
    | none =>
      refine ⟨fun f hf => ?_, fun e t hf => (by cases hf)⟩
      cases hf
      refine ⟨D, cl_stop ht hp hN (fun w1 => ?_), cm_3 h2, fun a j _ _ => rfl⟩
      have := num_no hn w1
      have tj := (ht.2.2.2 _ w1).2.2
      exact no_3 h2 (by omega) (by omega) (fun z => w ⟨w1, z⟩)
    | some q =>
      obtain ⟨e0, t0⟩ := q
      obtain ⟨w1, d, hr⟩ := num_so hn
      have st := num_st l60 hn
      have bd := num_bd hn
      refine ⟨fun f hf => (by cases hf), fun e t hf => ?_⟩
      cases hf
      obtain ⟨N1, s1, s2⟩ := cl_step ht w1 hN (go_3 h2 h3 hi (show 48 ≤ T p ∧ T p ≤ 57 by omega))
      obtain ⟨D', N', i1, i2, i3, i4, i5⟩ := cl_dig (r := 55) (i := i) (B := 11) (T := T) (len := len) (fun D => tx D len T ∧ D 45 2 = 4 ∧ D 45 3 = Int32.ofNat i)
        (fun D v q => ⟨tx_cl (fun a j _ h => u_ne (fun z => h (by omega))) q.1, by rw [u_ne (by omega)]; exact q.2.1, by rw [u_ne (by omega)]; exact q.2.2⟩)
        (fun D q => q.1)
        (fun D p v q hv hv2 hp d => go_4 q.2.1 q.2.2 hi hv hv2 d)
        (60 - p) (p + 1) (T p - 48) N1 (am_upd (am_upd D 55 i (Int32.ofNat (T p - 48))) 45 2 4) ⟨tx_cl (fun a j h1 h => by rw [u_ne (fun z => h1 (by omega)), u_ne (fun z => h (by omega))]) ht, u_self _ _ _ _, by rw [u_ne (by omega), u_ne (by omega)]; exact h3⟩ (by rw [u_ne (by omega), u_self]) d.2.2 (by omega) s2
      rw [hr] at i1 i2 i3
      refine ⟨D', N', s1.trans i1, i2, cm_4 i4.2.1, i3, fun a j h1 h2 => by rw [i5 a j h1, u_ne h2, u_ne h1], fun w2 h59 => ?_⟩
      have tj := (ht.2.2.2 _ w2).2.2
      exact no_4 i4.2.1 i4.2.2 hi i3 bd.2.2.2.2 (by omega) (fun z => st ⟨z.1, w2, z.2⟩) h59
/-- what the class may change while it reads from the order i on -/
def cl_fr (i : Nat) (D D' : am_DD) : Prop := ∀ a j, ¬ (a = 45 ∧ (j = 2 ∨ j = 3)) → ¬ ((a = 49 ∨ a = 51 ∨ a = 53 ∨ a = 55) ∧ i ≤ j) → D' a j = D a j
theorem cl_fr.tx {D D' : am_DD} {i : Nat} (h : cl_fr i D D') (ht : tx D len T) : tx D' len T := tx_cl (fun a j h1 h2 => h a j h1 (fun z => h2 z.1)) ht
theorem cl_fr.tr {D1 D2 D3 : am_DD} {i i' : Nat} (hi : i ≤ i') (h1 : cl_fr i D1 D2) (h2 : cl_fr i' D2 D3) : cl_fr i D1 D3 := fun a j x y => (h2 a j x (fun z => y ⟨z.1, by omega⟩)).trans (h1 a j x y)
theorem cl_ord {D : am_DD} {N p i : Nat} (ht : tx D len T) (h2 : D 45 2 = 0) (h3 : D 45 3 = Int32.ofNat i) (hi : p < len → i < 20) (hp : p ≤ len) (hN : len < N + p) :
    (∀ f, pr T len p = .inl f → ∃ D', fn_117_12 N (Int32.ofNat p) D = some (Int32.ofNat f, D') ∧ fn_104 D' = some (0, D') ∧ cl_fr i D D') ∧ ∀ e k v x t, pr T len p = .inr (e, k, v, x, t) → ∃ D' N', fn_117_12 N (Int32.ofNat p) D = fn_117_12 N' (Int32.ofNat e) D' ∧ len < N' + e ∧ fn_104 D' = some (1, D') ∧ D' 45 3 = Int32.ofNat i ∧ D' 49 i = Int32.ofNat k ∧ D' 51 i = Int32.ofNat v ∧ (k = 101 → D' 53 i = Int32.ofNat x ∧ D' 55 i = Int32.ofNat t) ∧ cl_fr i D D' ∧ (e < len → ¬ T e = 59 → fn_116 (Int32.ofNat (T e)) D' = some (0, D')) := by
  have l60 := ht.1
  by_cases w : p < len
  · have hi' := hi w
    have tj := (ht.2.2.2 p w).2.2
    cases hk : kd (T p) with
    | none =>
      rw [pr_none w hk]
      refine ⟨fun f hf => ?_, fun e k v x t hf => (by cases hf)⟩
      cases hf
      exact ⟨D, cl_stop ht hp hN (fun _ => no_0 h2 (by omega) hk), cm_0 h2, fun _ _ _ _ => rfl⟩
    | some q =>
      obtain ⟨a, B⟩ := q
      have kc := kd_c hk
      obtain ⟨N1, s1, s2⟩ := cl_step ht w hN (go_0 h2 h3 hi' hk)
      generalize hD1 : am_upd (am_upd D 49 i (Int32.ofNat (T p))) 45 2 1 = D1 at s1
      have b2 : D1 45 2 = 1 := by rw [← hD1, u_self]
      have b3 : D1 45 3 = Int32.ofNat i := by rw [← hD1, u_ne (by omega), u_ne (by omega)]; exact h3
      have b4 : D1 49 i = Int32.ofNat (T p) := by rw [← hD1, u_ne (by omega), u_self]
      have bf : cl_fr i D D1 := fun a j x y => by rw [← hD1, u_ne (fun z => x ⟨z.1, Or.inl z.2⟩), u_ne (fun z => y ⟨Or.inl z.1, by omega⟩)]
      have bt := bf.tx ht
      obtain ⟨c0, c1⟩ := cl_n1 bt b2 b3 hi' b4 hk (show p + 1 ≤ len by omega) s2
      by_cases c : T p = 101
      · have hab : a = 0 ∧ B = 11 := by omega
        obtain ⟨rfl, rfl⟩ := hab
        rw [pr_101 w c]
        unfold pe
        cases hn : num T len 0 11 (p + 1) with
        | none =>
          refine ⟨fun f hf => ?_, fun e k v x t hf => (by cases hf)⟩
          cases hf
          exact ⟨D1, s1.trans (c0 hn), cm_1 b2, bf⟩
        | some q =>
          obtain ⟨e0, v0⟩ := q
          have st := num_st l60 hn
          have bd := num_bd hn
          obtain ⟨D2, N2, d1, d2, d3, d4, d5⟩ := c1 e0 v0 hn
          have f3 : D2 45 3 = Int32.ofNat i := by rw [d5 45 3 (by omega) (by omega)]; exact b3
          have f4 : D2 49 i = Int32.ofNat 101 := by rw [d5 49 i (by omega) (by omega), b4, c]
          have ff : cl_fr i D1 D2 := fun a j x y => d5 a j (fun z => y ⟨by omega, by omega⟩) (fun z => x (by omega))
          have ft := ff.tx bt
          dsimp only
          by_cases g : e0 < len ∧ (T e0 = 76 ∨ T e0 = 82)
          · rw [if_pos g]
            obtain ⟨N3, g1, g2⟩ := cl_step ft g.1 d2 (go_2e d3 f3 hi' f4 d4 bd.2.2.2.2 g.2)
            generalize hD3 : am_upd (am_upd D2 53 i (Int32.ofNat (if T e0 = 76 then 0 else 1))) 45 2 3 = D3 at g1
            have h3' : D3 45 3 = Int32.ofNat i := by rw [← hD3, u_ne (by omega), u_ne (by omega)]; exact f3
            have hf3 : cl_fr i D2 D3 := fun a j x y => by rw [← hD3, u_ne (fun z => x ⟨z.1, Or.inl z.2⟩), u_ne (fun z => y (by omega))]
            have h53 : D3 53 i = Int32.ofNat (if T e0 = 76 then 0 else 1) := by rw [← hD3, u_ne (by omega), u_self]
            have h49 : D3 49 i = Int32.ofNat 101 := by rw [← hD3, u_ne (by omega), u_ne (by omega)]; exact f4
            have h51 : D3 51 i = Int32.ofNat v0 := by rw [← hD3, u_ne (by omega), u_ne (by omega)]; exact d4
            obtain ⟨t0, t1⟩ := cl_n3 (hf3.tx ft) (by rw [← hD3, u_self]) h3' hi' (show e0 + 1 ≤ len by omega) g2
            cases hq : pq T len (e0 + 1) with
            | inl f0 =>
              obtain ⟨D4, z1, z2, z3⟩ := t0 f0 hq
              refine ⟨fun f hf => ?_, fun e k v x t hf => (by cases hf)⟩
              cases hf
              have lf : cl_fr i D3 D4 := fun a j x y => z3 a j (fun z => y ⟨by omega, by omega⟩) (fun z => x (by omega))
              exact ⟨D4, s1.trans (d1.trans (g1.trans z1)), z2, ((bf.tr (Nat.le_refl _) ff).tr (Nat.le_refl _) hf3).tr (Nat.le_refl _) lf⟩
            | inr q =>
              obtain ⟨e1, t1'⟩ := q
              obtain ⟨D4, N4, z1, z2, z3, z4, z5, z6⟩ := t1 e1 t1' hq
              refine ⟨fun f hf => (by cases hf), fun e k v x t hf => ?_⟩
              cases hf
              have lf : cl_fr i D3 D4 := fun a j x y => z5 a j (fun z => y ⟨by omega, by omega⟩) (fun z => x (by omega))
              exact ⟨D4, N4, s1.trans (d1.trans (g1.trans z1)), z2, z3, by rw [z5 45 3 (by omega) (by omega)]; exact h3', by rw [z5 49 i (by omega) (by omega)]; exact h49, by rw [z5 51 i (by omega) (by omega)]; exact h51, fun _ => ⟨by rw [z5 53 i (by omega) (by omega)]; exact h53, z4⟩, ((bf.tr (Nat.le_refl _) ff).tr (Nat.le_refl _) hf3).tr (Nat.le_refl _) lf, z6⟩
          · rw [if_neg g]
            refine ⟨fun f hf => ?_, fun e k v x t hf => (by cases hf)⟩
            cases hf
            have cm := cm_2 d3 f3 hi' f4 (by omega)
            rw [if_pos rfl] at cm
            refine ⟨D2, s1.trans (d1.trans (cl_stop ft bd.2.2.1 d2 (fun w2 => ?_))), cm, bf.tr (Nat.le_refl _) ff⟩
            have tj2 := (ht.2.2.2 _ w2).2.2
            exact no_2 d3 f3 hi' f4 (show kd 101 = some (0, 11) from rfl) d4 bd.2.2.2.2 (by omega) (fun z => st ⟨z.1, w2, z.2⟩) (fun z => g ⟨w2, z.2⟩) (fun _ => rfl)
      · rw [pr_num w hk c]
        cases hn : num T len a B (p + 1) with
        | none =>
          refine ⟨fun f hf => ?_, fun e k v x t hf => (by cases hf)⟩
          cases hf
          exact ⟨D1, s1.trans (c0 hn), cm_1 b2, bf⟩
        | some q =>
          obtain ⟨e0, v0⟩ := q
          have st := num_st l60 hn
          have bd := num_bd hn
          obtain ⟨D2, N2, d1, d2, d3, d4, d5⟩ := c1 e0 v0 hn
          have f3 : D2 45 3 = Int32.ofNat i := by rw [d5 45 3 (by omega) (by omega)]; exact b3
          have f4 : D2 49 i = Int32.ofNat (T p) := by rw [d5 49 i (by omega) (by omega), b4]
          have ff : cl_fr i D1 D2 := fun a j x y => d5 a j (fun z => y ⟨by omega, by omega⟩) (fun z => x (by omega))
          have cm := cm_2 d3 f3 hi' f4 (by omega)
          rw [if_neg c] at cm
          refine ⟨fun f hf => (by cases hf), fun e k v x t hf => ?_⟩
          cases hf
          refine ⟨D2, N2, s1.trans d1, d2, cm, f3, f4, d4, fun z => absurd z c, bf.tr (Nat.le_refl _) ff, fun w2 h59 => ?_⟩
          have tj2 := (ht.2.2.2 _ w2).2.2
          exact no_2 d3 f3 hi' f4 hk d4 bd.2.2.2.2 (by omega) (fun z => st ⟨z.1, w2, z.2⟩) (fun z => c z.1) (fun z => absurd z h59)
  · rw [pr_end w]
    refine ⟨fun f hf => ?_, fun e k v x t hf => (by cases hf)⟩
    cases hf
    exact ⟨D, cl_stop ht hp hN (fun z => absurd z w), cm_0 h2, fun _ _ _ _ => rfl⟩
theorem cl_all : ∀ (n p i N : Nat) (D : am_DD), tx D len T → D 45 2 = 0 → D 45 3 = Int32.ofNat i → 3 * i ≤ p → p ≤ len → len < N + p → len < n + p →
    (∀ f, ps T len n p = .inl f → ∃ D', fn_117_12 N (Int32.ofNat p) D = some (Int32.ofNat f, D') ∧ f ≤ len ∧ (f = len → fn_104 D' = some (0, D')) ∧ cl_fr i D D') ∧ ∀ w, ps T len n p = .inr w → ∃ D' w', fn_117_12 N (Int32.ofNat p) D = some (Int32.ofNat len, D') ∧ fn_104 D' = some (1, D') ∧ w = w' + 1 ∧ D' 45 3 = Int32.ofNat (i + w') ∧ ods T len D' w p i ∧ cl_fr i D D' ∧ i + w' < 20 := by
  intro n
  induction n with
  | zero => intro p i N D ht h2 h3 hi hp hN hn; omega
  | succ n ih =>
    intro p i N D ht h2 h3 hi hp hN hn
    have l60 := ht.1
    obtain ⟨c0, c1⟩ := cl_ord ht h2 h3 (fun w => by omega) hp hN
    cases hr : pr T len p with
    | inl f0 =>
      rw [ps_f hr]
      refine ⟨fun f hf => ?_, fun w hf => (by cases hf)⟩
      cases hf
      obtain ⟨D', d1, d2, d3⟩ := c0 f0 hr
      exact ⟨D', d1, pr_in hp hr, fun _ => d2, d3⟩
    | inr q =>
      obtain ⟨e, k, v, x, t⟩ := q
      have bd := pr_bd hr
      obtain ⟨D1, N1, d1, d2, d3, d4, d5, d6, d7, d8, d9⟩ := c1 e k v x t hr
      have t1 := d8.tx ht
      by_cases he : e = len
      · subst he
        rw [ps_e hr]
        refine ⟨fun f hf => (by cases hf), fun w hf => ?_⟩
        cases hf
        exact ⟨D1, 0, d1.trans (cl_stop t1 (Nat.le_refl _) d2 (fun z => absurd z (Nat.lt_irrefl _))), d3, rfl, d4, ⟨e, k, v, x, t, hr, d5, d6, d7, Or.inl ⟨rfl, rfl⟩⟩, d8, by omega⟩
      · by_cases hT : T e = 59
        · have g : fn_116 (Int32.ofNat (T e)) D1 = some (1, am_upd (am_upd D1 45 3 (Int32.ofNat (i + 1))) 45 2 0) := by
            rw [hT]
            exact sc_1 d3 d4
          obtain ⟨N2, s1, s2⟩ := cl_step t1 (show e < len by omega) d2 g
          generalize hD2 : am_upd (am_upd D1 45 3 (Int32.ofNat (i + 1))) 45 2 0 = D2 at s1
          have f2 : cl_fr (i + 1) D1 D2 := fun a j x y => by rw [← hD2, u_ne (fun z => x (by omega)), u_ne (fun z => x (by omega))]
          obtain ⟨i0, i1⟩ := ih (e + 1) (i + 1) N2 D2 (f2.tx t1) (by rw [← hD2, u_self]) (by rw [← hD2, u_ne (by omega), u_self]) (by omega) (by omega) s2 (by omega)
          rw [ps_m hr he hT]
          cases hm : ps T len n (e + 1) with
          | inl f0 =>
            obtain ⟨D', z1, z2, z3, z4⟩ := i0 f0 hm
            refine ⟨fun f hf => ?_, fun w hf => (by cases hf)⟩
            cases hf
            have fz : cl_fr (i + 1) D1 D' := f2.tr (Nat.le_refl _) z4
            exact ⟨D', d1.trans (s1.trans z1), z2, z3, d8.tr (by omega : i ≤ i + 1) fz⟩
          | inr w0 =>
            obtain ⟨D', w', z1, z2, z3, z4, z5, z6, z7⟩ := i1 w0 hm
            refine ⟨fun f hf => (by cases hf), fun w hf => ?_⟩
            cases hf
            have fz : cl_fr (i + 1) D1 D' := f2.tr (Nat.le_refl _) z6
            refine ⟨D', w' + 1, d1.trans (s1.trans z1), z2, by omega, by rw [z4]; congr 1; omega, ⟨e, k, v, x, t, hr, ?_, ?_, fun z => ⟨?_, ?_⟩, Or.inr ⟨by omega, hT, z5⟩⟩, d8.tr (by omega : i ≤ i + 1) fz, by omega⟩
            · rw [fz 49 i (by omega) (by omega)]; exact d5
            · rw [fz 51 i (by omega) (by omega)]; exact d6
            · rw [fz 53 i (by omega) (by omega)]; exact (d7 z).1
            · rw [fz 55 i (by omega) (by omega)]; exact (d7 z).2
        · rw [ps_x hr he hT]
          refine ⟨fun f hf => ?_, fun w hf => (by cases hf)⟩
          cases hf
          exact ⟨D1, d1.trans (cl_stop t1 bd.2.1 d2 (fun z => d9 z hT)), bd.2.1, fun z => absurd z he, d8⟩
end VT6
