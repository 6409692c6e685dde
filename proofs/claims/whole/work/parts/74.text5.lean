/-! one letter, as the class reads it -/
section VT5
variable {len : Nat} {T : Nat → Nat} {D : am_DD} {c i : Nat}
theorem n_ne {a b : Nat} (ha : a < 2 ^ 31) (hb : b < 2 ^ 31) (h : ¬ a = b) : ¬ Int32.ofNat a = Int32.ofNat b := fun z => h (n_inj ha hb z)
theorem fn_116_eq (a : Int32) (D : am_DD) : fn_116 a D = if ¬ a = 59 then (if D 45 2 = 0 then isbM (fn_107 a D) else if D 45 2 = 1 then isbM (fn_109 a D) else if D 45 2 = 2 then isbM (fn_112 a D) else if D 45 2 = 3 then isbM (fn_113 a D) else if D 45 2 = 4 then isbM (fn_114 a D) else if D 45 2 = 5 then isbM (fn_115 a D) else some (0, D)) else isbM (fn_105 D) := by
  unfold fn_116 isbM
  rfl
theorem ph_0 (h : D 45 2 = 0) (hc : c < 128) (h59 : ¬ c = 59) : fn_116 (Int32.ofNat c) D = isbM (fn_107 (Int32.ofNat c) D) := by
  have h5 : ¬ Int32.ofNat c = 59 := n_ne (b := 59) (by omega) (by omega) h59
  rw [fn_116_eq, if_pos h5, h, if_pos rfl]
theorem ph_1 (h : D 45 2 = 1) (hc : c < 128) (h59 : ¬ c = 59) : fn_116 (Int32.ofNat c) D = isbM (fn_109 (Int32.ofNat c) D) := by
  have h5 : ¬ Int32.ofNat c = 59 := n_ne (b := 59) (by omega) (by omega) h59
  rw [fn_116_eq, if_pos h5, h, if_neg (by decide), if_pos rfl]
theorem ph_2 (h : D 45 2 = 2) (hc : c < 128) (h59 : ¬ c = 59) : fn_116 (Int32.ofNat c) D = isbM (fn_112 (Int32.ofNat c) D) := by
  have h5 : ¬ Int32.ofNat c = 59 := n_ne (b := 59) (by omega) (by omega) h59
  rw [fn_116_eq, if_pos h5, h, if_neg (by decide), if_neg (by decide), if_pos rfl]
theorem ph_3 (h : D 45 2 = 3) (hc : c < 128) (h59 : ¬ c = 59) : fn_116 (Int32.ofNat c) D = isbM (fn_113 (Int32.ofNat c) D) := by
  have h5 : ¬ Int32.ofNat c = 59 := n_ne (b := 59) (by omega) (by omega) h59
  rw [fn_116_eq, if_pos h5, h, if_neg (by decide), if_neg (by decide), if_neg (by decide), if_pos rfl]
theorem ph_4 (h : D 45 2 = 4) (hc : c < 128) (h59 : ¬ c = 59) : fn_116 (Int32.ofNat c) D = isbM (fn_114 (Int32.ofNat c) D) := by
  have h5 : ¬ Int32.ofNat c = 59 := n_ne (b := 59) (by omega) (by omega) h59
  rw [fn_116_eq, if_pos h5, h, if_neg (by decide), if_neg (by decide), if_neg (by decide), if_neg (by decide), if_pos rfl]
theorem ph_5 (h : D 45 2 = 5) (hc : c < 128) (h59 : ¬ c = 59) : fn_116 (Int32.ofNat c) D = isbM (fn_115 (Int32.ofNat c) D) := by
  have h5 : ¬ Int32.ofNat c = 59 := n_ne (b := 59) (by omega) (by omega) h59
  rw [fn_116_eq, if_pos h5, h, if_neg (by decide), if_neg (by decide), if_neg (by decide), if_neg (by decide), if_neg (by decide), if_pos rfl]
theorem no_6 (h : D 45 2 = 6) (hc : c < 128) (h59 : ¬ c = 59) : fn_116 (Int32.ofNat c) D = some (0, D) := by
  have h5 : ¬ Int32.ofNat c = 59 := n_ne (b := 59) (by omega) (by omega) h59
  rw [fn_116_eq, if_pos h5, h, if_neg (by decide), if_neg (by decide), if_neg (by decide), if_neg (by decide), if_neg (by decide), if_neg (by decide)]
/-- is the order complete -/
theorem cm_0 (h : D 45 2 = 0) : fn_104 D = some (0, D) := by
  unfold fn_104
  rw [h, if_neg (by decide), if_neg (by decide), if_neg (by decide), if_neg (by decide), if_neg (by decide)]
theorem cm_1 (h : D 45 2 = 1) : fn_104 D = some (0, D) := by
  unfold fn_104
  rw [h, if_neg (by decide), if_neg (by decide), if_neg (by decide), if_neg (by decide), if_neg (by decide)]
theorem cm_2 {k : Nat} (h : D 45 2 = 2) (h3 : D 45 3 = Int32.ofNat i) (hi : i < 20) (hk : D 49 i = Int32.ofNat k) (k2 : k < 128) : fn_104 D = some (if k = 101 then 0 else 1, D) := by
  unfold fn_104
  rw [h, if_pos rfl, h3, rw_at_nI hi (by omega), hk]
  by_cases z : k = 101
  · rw [if_pos z, if_pos (show Int32.ofNat k = 101 by rw [z]; rfl)]
  · have z2 : ¬ Int32.ofNat k = 101 := n_ne (b := 101) (by omega) (by omega) z
    rw [if_neg z, if_neg z2]
theorem cm_3 (h : D 45 2 = 3) : fn_104 D = some (0, D) := by
  unfold fn_104
  rw [h, if_neg (by decide), if_pos rfl]
theorem cm_4 (h : D 45 2 = 4) : fn_104 D = some (1, D) := by
  unfold fn_104
  rw [h, if_neg (by decide), if_neg (by decide), if_pos rfl]
theorem cm_5 (h : D 45 2 = 5) : fn_104 D = some (0, D) := by
  unfold fn_104
  rw [h, if_neg (by decide), if_neg (by decide), if_neg (by decide), if_pos rfl]
theorem cm_6 (h : D 45 2 = 6) : fn_104 D = some (1, D) := by
  unfold fn_104
  rw [h, if_neg (by decide), if_neg (by decide), if_neg (by decide), if_neg (by decide), if_pos rfl]
theorem sc_0 (h : fn_104 D = some (0, D)) : fn_116 59 D = some (0, D) := by
  rw [fn_116_eq, if_neg (not_not_intro rfl)]
  unfold fn_105
  rw [h]
  rfl
theorem sc_1 (h : fn_104 D = some (1, D)) (h3 : D 45 3 = Int32.ofNat i) : fn_116 59 D = some (1, am_upd (am_upd D 45 3 (Int32.ofNat (i + 1))) 45 2 0) := by
  rw [fn_116_eq, if_neg (not_not_intro rfl)]
  unfold fn_105
  rw [h]
  dsimp only
  rw [if_pos (by decide), h3, nI_up]
  rfl
theorem kd_n (h : kd c = none) : ¬ c = 100 ∧ ¬ c = 101 ∧ ¬ c = 102 ∧ ¬ c = 103 ∧ ¬ c = 116 := by
  refine ⟨fun z => ?_, fun z => ?_, fun z => ?_, fun z => ?_, fun z => ?_⟩ <;> (rw [z] at h; cases h)
theorem fn_106_k {a B : Nat} (h : kd c = some (a, B)) : fn_106 (Int32.ofNat c) D = some (Int32.ofNat B, D) := by
  unfold fn_106
  rcases kd_c h with ⟨rfl, rfl, rfl⟩ | ⟨rfl, rfl, rfl⟩ | ⟨rfl, rfl, rfl⟩ | ⟨rfl, rfl, rfl⟩ | ⟨rfl, rfl, rfl⟩
  · rw [if_pos (by decide)]; rfl
  · rw [if_neg (by decide), if_pos (by decide)]; rfl
  · rw [if_neg (by decide), if_neg (by decide), if_pos (by decide)]; rfl
  · rw [if_neg (by decide), if_neg (by decide), if_neg (by decide), if_pos (by decide)]; rfl
  · rw [if_neg (by decide), if_neg (by decide), if_neg (by decide), if_neg (by decide), if_pos (by decide)]; rfl
theorem fn_106_0 (hc : c < 128) (h : kd c = none) : fn_106 (Int32.ofNat c) D = some (-1, D) := by
  obtain ⟨h1, h2, h3, h4, h5⟩ := kd_n h
  have e1 : ¬ Int32.ofNat c = 100 := n_ne (b := 100) (by omega) (by omega) h1
  have e2 : ¬ Int32.ofNat c = 101 := n_ne (b := 101) (by omega) (by omega) h2
  have e3 : ¬ Int32.ofNat c = 102 := n_ne (b := 102) (by omega) (by omega) h3
  have e4 : ¬ Int32.ofNat c = 103 := n_ne (b := 103) (by omega) (by omega) h4
  have e5 : ¬ Int32.ofNat c = 116 := n_ne (b := 116) (by omega) (by omega) h5
  unfold fn_106
  rw [if_neg e1, if_neg e2, if_neg e3, if_neg e4, if_neg e5]
theorem fn_108_b (hc : c < 128) : fn_108 (Int32.ofNat c) D = some (b01 (48 ≤ c ∧ c ≤ 57), D) := by
  unfold fn_108
  have e1 : Int32.ofNat c < 48 ↔ c < 48 := n_lt (b := 48) (by omega) (by omega)
  have e2 : (57 : Int32) < Int32.ofNat c ↔ 57 < c := n_lt (a := 57) (by omega) (by omega)
  by_cases h1 : c < 48
  · rw [if_pos (e1.mpr h1), b01_f (by omega)]
  · rw [if_neg (mt e1.mp h1)]
    by_cases h2 : 57 < c
    · rw [if_pos (e2.mpr h2), b01_f (by omega)]
    · rw [if_neg (mt e2.mp h2), b01_t (by omega)]
theorem n_48 (hc : c < 128) (h : 48 ≤ c) : Int32.ofNat c - 48 = Int32.ofNat (c - 48) := n_sub (b := 48) h (by omega)
/-- the head letter -/
theorem go_0 {a B : Nat} (h : D 45 2 = 0) (h3 : D 45 3 = Int32.ofNat i) (hi : i < 20) (hk : kd c = some (a, B)) : fn_116 (Int32.ofNat c) D = some (1, am_upd (am_upd D 49 i (Int32.ofNat c)) 45 2 1) := by
  have kc := kd_c hk
  have b0 : (0 : Int32) ≤ Int32.ofNat B := n_ile (a := 0) (by omega) (by omega) (by omega)
  rw [ph_0 h (by omega) (by omega)]
  unfold fn_107
  rw [fn_106_k hk]
  dsimp only
  rw [if_pos b0, h3, rw_put_nI hi (by omega)]
  rfl
theorem no_0 (h : D 45 2 = 0) (hc : c < 128) (hk : kd c = none) : fn_116 (Int32.ofNat c) D = some (0, D) := by
  by_cases z : c = 59
  · rw [z]
    exact sc_0 (cm_0 h)
  · rw [ph_0 h hc z]
    unfold fn_107
    rw [fn_106_0 hc hk]
    dsimp only
    rw [if_neg (by decide)]
    rfl
theorem fn_109_n {k a B : Nat} (h3 : D 45 3 = Int32.ofNat i) (hi : i < 20) (hk : D 49 i = Int32.ofNat k) (kk : kd k = some (a, B)) (hc : c < 128) : fn_109 (Int32.ofNat c) D = if 48 + a ≤ c ∧ c ≤ 57 then some (1, am_upd (am_upd D 51 i (Int32.ofNat (c - 48))) 45 2 2) else some (0, D) := by
  have kc := kd_c kk
  unfold fn_109
  rw [h3, rw_at_nI hi (by omega), hk, fn_108_b hc]
  by_cases d : 48 ≤ c ∧ c ≤ 57
  · simp only [b01_t d, i10, if_false, n_48 hc d.1, rw_put_nI hi (show 20 < 2 ^ 31 by omega), h3]
    have l1 : (1 : Int32) ≤ Int32.ofNat (c - 48) ↔ 1 ≤ c - 48 := n_le (a := 1) (by omega) (by omega)
    have l0 : (0 : Int32) ≤ Int32.ofNat (c - 48) := n_ile (a := 0) (by omega) (by omega) (by omega)
    by_cases k1 : k = 100
    · rw [if_pos (show Int32.ofNat k = 100 by rw [k1]; rfl)]
      by_cases q : 1 ≤ c - 48
      · rw [if_pos (l1.mpr q), if_pos (by omega)]
      · rw [if_neg (mt l1.mp q), if_neg (by omega)]
    · have k1' : ¬ Int32.ofNat k = 100 := n_ne (b := 100) (by omega) (by omega) k1
      rw [if_neg k1']
      by_cases k2 : k = 116
      · rw [if_neg (not_not_intro (show Int32.ofNat k = 116 by rw [k2]; rfl))]
        by_cases q : 1 ≤ c - 48
        · rw [if_pos (l1.mpr q), if_pos (by omega)]
        · rw [if_neg (mt l1.mp q), if_neg (by omega)]
      · have k2' : ¬ Int32.ofNat k = 116 := n_ne (b := 116) (by omega) (by omega) k2
        rw [if_pos k2', if_pos l0, if_pos (by omega)]
  · simp only [b01_f d, if_true]
    rw [if_neg (show ¬ (48 + a ≤ c ∧ c ≤ 57) by omega)]
    split
    · rfl
    · split <;> rfl
theorem go_1 {k a B : Nat} (h : D 45 2 = 1) (h3 : D 45 3 = Int32.ofNat i) (hi : i < 20) (hk : D 49 i = Int32.ofNat k) (kk : kd k = some (a, B)) (d : 48 + a ≤ c ∧ c ≤ 57) : fn_116 (Int32.ofNat c) D = some (1, am_upd (am_upd D 51 i (Int32.ofNat (c - 48))) 45 2 2) := by
  rw [ph_1 h (by omega) (by omega), fn_109_n h3 hi hk kk (by omega), if_pos d]
  rfl
theorem no_1 {k a B : Nat} (h : D 45 2 = 1) (h3 : D 45 3 = Int32.ofNat i) (hi : i < 20) (hk : D 49 i = Int32.ofNat k) (kk : kd k = some (a, B)) (hc : c < 128) (d : ¬ (48 + a ≤ c ∧ c ≤ 57)) : fn_116 (Int32.ofNat c) D = some (0, D) := by
  by_cases z : c = 59
  · rw [z]
    exact sc_0 (cm_1 h)
  · rw [ph_1 h hc z, fn_109_n h3 hi hk kk hc, if_neg d]
    rfl
theorem fn_110_n {v B : Nat} (hv : v ≤ 50) (hB : B ≤ 50) (hc : c < 128) : fn_110 (Int32.ofNat v) (Int32.ofNat c) (Int32.ofNat B) D = some (if v ≠ 0 ∧ 48 ≤ c ∧ c ≤ 57 ∧ 10 * v + c - 48 ≤ B then Int32.ofNat (10 * v + c - 48) else -1, D) := by
  unfold fn_110
  rw [fn_108_b hc]
  by_cases z : v = 0
  · rw [if_pos (show Int32.ofNat v = 0 by rw [z]; rfl), if_neg (fun y => y.1 z)]
  · have z' : ¬ Int32.ofNat v = 0 := n_ne (b := 0) (by omega) (by omega) z
    rw [if_neg z']
    by_cases d : 48 ≤ c ∧ c ≤ 57
    · have e : Int32.ofNat v * 10 + Int32.ofNat c - 48 = Int32.ofNat (10 * v + c - 48) := by
        have a1 : Int32.ofNat v * (10 : Int32) = Int32.ofNat (v * 10) := n_mul v 10
        rw [a1, n_add, Nat.mul_comm v 10]
        exact n_sub (b := 48) (by omega) (by omega)
      simp only [b01_t d, i10, if_false, e]
      by_cases q : 10 * v + c - 48 ≤ B
      · rw [if_pos (n_ile (by omega) (by omega) q), if_pos ⟨z, d.1, d.2, q⟩]
      · rw [if_neg (n_nle (by omega) (by omega) (by omega)), if_neg (fun y => q y.2.2.2)]
    · simp only [b01_f d, if_true]
      rw [if_neg (fun y => d ⟨y.2.1, y.2.2.1⟩)]
theorem fn_111_n (h3 : D 45 3 = Int32.ofNat i) (hi : i < 20) (hc : c < 128) : fn_111 (Int32.ofNat c) D = if c = 76 ∨ c = 82 then some (1, am_upd (am_upd D 53 i (Int32.ofNat (if c = 76 then 0 else 1))) 45 2 3) else some (0, D) := by
  unfold fn_111
  rw [h3]
  by_cases z : c = 76
  · have z' : Int32.ofNat c = 76 := by rw [z]; rfl
    rw [if_pos z', if_neg (not_not_intro z'), if_pos (Or.inl z), if_pos z, rw_put_nI hi (by omega)]
    rfl
  · have z' : ¬ Int32.ofNat c = 76 := n_ne (b := 76) (by omega) (by omega) z
    rw [if_neg z']
    by_cases w : c = 82
    · have w' : Int32.ofNat c = 82 := by rw [w]; rfl
      rw [if_pos w', if_pos z', if_pos (Or.inr w), if_neg z, rw_put_nI hi (by omega)]
      rfl
    · have w' : ¬ Int32.ofNat c = 82 := n_ne (b := 82) (by omega) (by omega) w
      rw [if_neg w', if_neg (fun y => y.elim z w)]
theorem n_neg {a : Nat} (ha : a < 2 ^ 31) : ¬ Int32.ofNat a < 0 := fun z => by
  have : Int32.ofNat a < Int32.ofNat 0 ↔ a < 0 := n_lt ha (by omega)
  have := this.mp z
  omega
theorem fn_112_n {k a B v : Nat} (h3 : D 45 3 = Int32.ofNat i) (hi : i < 20) (hk : D 49 i = Int32.ofNat k) (kk : kd k = some (a, B)) (hv : D 51 i = Int32.ofNat v) (hv2 : v ≤ B) (hc : c < 128) : fn_112 (Int32.ofNat c) D = if v ≠ 0 ∧ 48 ≤ c ∧ c ≤ 57 ∧ 10 * v + c - 48 ≤ B then some (1, am_upd D 51 i (Int32.ofNat (10 * v + c - 48))) else if k = 101 ∧ (c = 76 ∨ c = 82) then some (1, am_upd (am_upd D 53 i (Int32.ofNat (if c = 76 then 0 else 1))) 45 2 3) else some (0, D) := by
  have kc := kd_c kk
  unfold fn_112
  rw [h3, rw_at_nI hi (by omega), hk, fn_106_k kk]
  dsimp only
  rw [rw_at_nI hi (by omega), hv, fn_110_n (by omega) (by omega) hc]
  dsimp only
  by_cases q : v ≠ 0 ∧ 48 ≤ c ∧ c ≤ 57 ∧ 10 * v + c - 48 ≤ B
  · simp only [if_pos q]
    rw [if_neg (n_neg (by omega)), h3, rw_put_nI hi (by omega)]
  · simp only [if_neg q]
    rw [if_pos (by decide)]
    by_cases z : k = 101
    · rw [if_neg (not_not_intro (show Int32.ofNat k = 101 by rw [z]; rfl)), fn_111_n h3 hi hc]
      by_cases w : c = 76 ∨ c = 82
      · rw [if_pos w, if_pos (show k = 101 ∧ (c = 76 ∨ c = 82) from ⟨z, w⟩)]
        rfl
      · rw [if_neg w, if_neg (show ¬ (k = 101 ∧ (c = 76 ∨ c = 82)) from fun y => w y.2)]
        rfl
    · have z' : ¬ Int32.ofNat k = 101 := n_ne (b := 101) (by omega) (by omega) z
      rw [if_pos z', if_neg (fun y => z y.1)]
theorem go_2 {k a B v : Nat} (h : D 45 2 = 2) (h3 : D 45 3 = Int32.ofNat i) (hi : i < 20) (hk : D 49 i = Int32.ofNat k) (kk : kd k = some (a, B)) (hv : D 51 i = Int32.ofNat v) (hv2 : v ≤ B) (d : v ≠ 0 ∧ 48 ≤ c ∧ c ≤ 57 ∧ 10 * v + c - 48 ≤ B) : fn_116 (Int32.ofNat c) D = some (1, am_upd D 51 i (Int32.ofNat (10 * v + c - 48))) := by
  rw [ph_2 h (by omega) (by omega), fn_112_n h3 hi hk kk hv hv2 (by omega), if_pos d]
  rfl
theorem go_2e {v : Nat} (h : D 45 2 = 2) (h3 : D 45 3 = Int32.ofNat i) (hi : i < 20) (hk : D 49 i = Int32.ofNat 101) (hv : D 51 i = Int32.ofNat v) (hv2 : v ≤ 11) (d : c = 76 ∨ c = 82) : fn_116 (Int32.ofNat c) D = some (1, am_upd (am_upd D 53 i (Int32.ofNat (if c = 76 then 0 else 1))) 45 2 3) := by
  rw [ph_2 h (by omega) (by omega), fn_112_n h3 hi hk (show kd 101 = some (0, 11) from rfl) hv hv2 (by omega), if_neg (by omega), if_pos ⟨rfl, d⟩]
  rfl
theorem no_2 {k a B v : Nat} (h : D 45 2 = 2) (h3 : D 45 3 = Int32.ofNat i) (hi : i < 20) (hk : D 49 i = Int32.ofNat k) (kk : kd k = some (a, B)) (hv : D 51 i = Int32.ofNat v) (hv2 : v ≤ B) (hc : c < 128) (d : ¬ (v ≠ 0 ∧ 48 ≤ c ∧ c ≤ 57 ∧ 10 * v + c - 48 ≤ B)) (d2 : ¬ (k = 101 ∧ (c = 76 ∨ c = 82))) (d3 : c = 59 → k = 101) : fn_116 (Int32.ofNat c) D = some (0, D) := by
  have kc := kd_c kk
  by_cases z : c = 59
  · have e := cm_2 h h3 hi hk (by omega)
    rw [if_pos (d3 z)] at e
    rw [z]
    exact sc_0 e
  · rw [ph_2 h hc z, fn_112_n h3 hi hk kk hv hv2 hc, if_neg d, if_neg d2]
    rfl
theorem go_3b (h : D 45 2 = 3) : fn_116 (Int32.ofNat 98) D = some (1, am_upd D 45 2 5) := by
  rw [ph_3 h (by omega) (by omega)]
  unfold fn_113
  rw [if_neg (by decide)]
  rfl
theorem go_3 (h : D 45 2 = 3) (h3 : D 45 3 = Int32.ofNat i) (hi : i < 20) (d : 48 ≤ c ∧ c ≤ 57) : fn_116 (Int32.ofNat c) D = some (1, am_upd (am_upd D 55 i (Int32.ofNat (c - 48))) 45 2 4) := by
  have z' : ¬ Int32.ofNat c = 98 := n_ne (b := 98) (by omega) (by omega) (by omega)
  rw [ph_3 h (by omega) (by omega)]
  unfold fn_113
  rw [if_pos z', fn_108_b (by omega), b01_t d]
  dsimp only
  rw [if_pos (by decide), h3, rw_put_nI hi (by omega), n_48 (by omega) d.1]
  rfl
theorem no_3 (h : D 45 2 = 3) (hc : c < 128) (d : ¬ (48 ≤ c ∧ c ≤ 57)) (d2 : ¬ c = 98) : fn_116 (Int32.ofNat c) D = some (0, D) := by
  by_cases z : c = 59
  · rw [z]
    exact sc_0 (cm_3 h)
  · have z' : ¬ Int32.ofNat c = 98 := n_ne (b := 98) (by omega) (by omega) d2
    rw [ph_3 h hc z]
    unfold fn_113
    rw [if_pos z', fn_108_b hc, b01_f d]
    rfl
theorem fn_114_n {v : Nat} (h3 : D 45 3 = Int32.ofNat i) (hi : i < 20) (hv : D 55 i = Int32.ofNat v) (hv2 : v ≤ 11) (hc : c < 128) : fn_114 (Int32.ofNat c) D = if v ≠ 0 ∧ 48 ≤ c ∧ c ≤ 57 ∧ 10 * v + c - 48 ≤ 11 then some (1, am_upd D 55 i (Int32.ofNat (10 * v + c - 48))) else some (0, D) := by
  have f : fn_110 (Int32.ofNat v) (Int32.ofNat c) 11 D = some (if v ≠ 0 ∧ 48 ≤ c ∧ c ≤ 57 ∧ 10 * v + c - 48 ≤ 11 then Int32.ofNat (10 * v + c - 48) else -1, D) := fn_110_n (B := 11) (by omega) (by omega) hc
  unfold fn_114
  rw [h3, rw_at_nI hi (by omega), hv, f]
  dsimp only
  by_cases q : v ≠ 0 ∧ 48 ≤ c ∧ c ≤ 57 ∧ 10 * v + c - 48 ≤ 11
  · have l0 : (0 : Int32) ≤ Int32.ofNat (10 * v + c - 48) := n_ile (a := 0) (by omega) (by omega) (by omega)
    simp only [if_pos q]
    rw [if_pos l0, h3, rw_put_nI hi (by omega)]
  · simp only [if_neg q]
    rw [if_neg (by decide)]
theorem go_4 {v : Nat} (h : D 45 2 = 4) (h3 : D 45 3 = Int32.ofNat i) (hi : i < 20) (hv : D 55 i = Int32.ofNat v) (hv2 : v ≤ 11) (d : v ≠ 0 ∧ 48 ≤ c ∧ c ≤ 57 ∧ 10 * v + c - 48 ≤ 11) : fn_116 (Int32.ofNat c) D = some (1, am_upd D 55 i (Int32.ofNat (10 * v + c - 48))) := by
  rw [ph_4 h (by omega) (by omega), fn_114_n h3 hi hv hv2 (by omega), if_pos d]
  rfl
theorem no_4 {v : Nat} (h : D 45 2 = 4) (h3 : D 45 3 = Int32.ofNat i) (hi : i < 20) (hv : D 55 i = Int32.ofNat v) (hv2 : v ≤ 11) (hc : c < 128) (d : ¬ (v ≠ 0 ∧ 48 ≤ c ∧ c ≤ 57 ∧ 10 * v + c - 48 ≤ 11)) (z : ¬ c = 59) : fn_116 (Int32.ofNat c) D = some (0, D) := by
  rw [ph_4 h hc z, fn_114_n h3 hi hv hv2 hc, if_neg d]
  rfl
theorem go_5 (h : D 45 2 = 5) (h3 : D 45 3 = Int32.ofNat i) (hi : i < 20) (d : 48 ≤ c ∧ c ≤ 52) : fn_116 (Int32.ofNat c) D = some (1, am_upd (am_upd D 55 i (Int32.ofNat (c - 48 + 20))) 45 2 6) := by
  have e : (20 : Int32) + Int32.ofNat c - 48 = Int32.ofNat (c - 48 + 20) := by
    have a1 : (20 : Int32) + Int32.ofNat c = Int32.ofNat (20 + c) := n_add 20 c
    have a2 : Int32.ofNat (20 + c) - 48 = Int32.ofNat (20 + c - 48) := n_sub (b := 48) (by omega) (by omega)
    rw [a1, a2]
    congr 1
    omega
  have l5 : Int32.ofNat (c - 48) < 5 := (n_lt (b := 5) (by omega) (by omega)).mpr (by omega)
  rw [ph_5 h (by omega) (by omega)]
  unfold fn_115
  rw [fn_108_b (by omega), b01_t (show 48 ≤ c ∧ c ≤ 57 by omega)]
  dsimp only
  rw [if_neg (by decide), n_48 (by omega) d.1, if_pos l5, h3, rw_put_nI hi (by omega), e]
  rfl
theorem no_5 (h : D 45 2 = 5) (hc : c < 128) (d : ¬ (48 ≤ c ∧ c ≤ 52)) : fn_116 (Int32.ofNat c) D = some (0, D) := by
  by_cases z : c = 59
  · rw [z]
    exact sc_0 (cm_5 h)
  · rw [ph_5 h hc z]
    unfold fn_115
    rw [fn_108_b hc]
    by_cases q : 48 ≤ c ∧ c ≤ 57
    · have l5 : ¬ Int32.ofNat (c - 48) < 5 := fun y => by
        have := (n_lt (b := 5) (by omega) (by omega)).mp y
        omega
      rw [b01_t q]
      dsimp only
      rw [if_neg (by decide), n_48 hc q.1, if_neg l5]
      rfl
    · rw [b01_f q]
      rfl
end VT5
