/-! saving and restoring -/
def cp_a (D : am_DD) (q f r t : Nat) : am_DD := fun a j => if a = r ∧ t ≤ j ∧ j < t + 405 then D q (f + (j - t)) else D a j
theorem fn_30_3_spec {q nq r nr f t : Nat} (hqr : q ≠ r) (hf : f + 405 ≤ nq) (ht : t + 405 ≤ nr) (hnq : nq < 2 ^ 31) (hnr : nr < 2 ^ 31) : ∀ (m k n : Nat) (D : am_DD), k + m = 405 → m < n → fn_30_3 q nq r nr n (Int32.ofNat f) (Int32.ofNat t) (Int32.ofNat k) D = some (0, fun a j => if a = r ∧ t + k ≤ j ∧ j < t + 405 then D q (f + (j - t)) else D a j) := by
  intro m
  induction m with
  | zero =>
    intro k n D hk hn
    obtain ⟨n, rfl⟩ : ∃ n', n = n' + 1 := ⟨n - 1, by omega⟩
    have h1 : (405 : Int32) ≤ Int32.ofNat k := (n_le (a := 405) (by omega) (by omega)).mpr (by omega)
    rw [fn_30_3, if_pos h1]
    congr 2
    funext a j
    rw [if_neg (fun z => by omega)]
  | succ m ih =>
    intro k n D hk hn
    obtain ⟨n, rfl⟩ : ∃ n', n = n' + 1 := ⟨n - 1, by omega⟩
    have h1 : ¬ (405 : Int32) ≤ Int32.ofNat k := fun h => by
      have := (n_le (a := 405) (by omega) (by omega)).mp h
      omega
    rw [fn_30_3, if_neg h1, n_add, n_add, if_neg (n_bad hnq (by omega)), if_neg (n_bad hnr (by omega)), c_ofNat (by omega), c_ofNat (by omega), nI_up, ih (k + 1) n _ (by omega) (by omega)]
    congr 2
    funext a j
    by_cases ha : a = r
    · subst ha
      by_cases hj : t + (k + 1) ≤ j ∧ j < t + 405
      · rw [if_pos ⟨rfl, hj⟩, if_pos ⟨rfl, by omega, hj.2⟩, u_row (by omega)]
      · rw [if_neg (fun z => hj z.2)]
        by_cases hj2 : j = t + k
        · subst hj2
          rw [u_self, if_pos ⟨rfl, by omega, by omega⟩, show f + (t + k - t) = f + k by omega]
        · rw [u_ne (fun z => hj2 z.2), if_neg (fun z => hj ⟨by omega, z.2.2⟩)]
    · rw [if_neg (fun z => ha z.1), if_neg (fun z => ha z.1), u_ne (fun z => ha z.1)]
theorem fn_30_spec {q nq r nr f t : Nat} (D : am_DD) (hqr : q ≠ r) (hf : f + 405 ≤ nq) (ht : t + 405 ≤ nr) (hnq : nq < 2 ^ 31) (hnr : nr < 2 ^ 31) : fn_30 q nq r nr (Int32.ofNat f) (Int32.ofNat t) D = some (0, cp_a D q f r t) := by
  unfold fn_30 am_F
  have h := fn_30_3_spec hqr hf ht hnq hnr 405 0 100000 D (by omega) (by omega)
  exact h
/-- the reference's shift of what is saved -/
theorem fn_31_11_spec (D0 : am_DD) : ∀ (m k n : Nat) (D : am_DD), k + m = 2025 → m < n → D 321 2 = 6 → (∀ j, D 323 j = if j < k then D0 323 (405 + j) else D0 323 j) → (∀ a, a ≠ 323 → D a = D0 a) →
    ∃ D', fn_31_11 n (Int32.ofNat k) D = some (0, D') ∧ (∀ a j, ¬ a = 323 → ¬ (a = 321 ∧ j = 2) → D' a j = D0 a j) ∧ D' 321 2 = 6 ∧ ∀ j, D' 323 j = if j < 2025 then D0 323 (405 + j) else if j < 2430 then D0 322 (j - 2025) else D0 323 j := by
  intro m
  induction m with
  | zero =>
    intro k n D hk hn h6 hD hA
    obtain ⟨n, rfl⟩ : ∃ n', n = n' + 1 := ⟨n - 1, by omega⟩
    have hk2 : k = 2025 := by omega
    subst hk2
    rw [fn_31_11, if_pos (by decide)]
    rw [u_self, h6]
    have e5 : ((405 : Int32) * (6 - 1)) = Int32.ofNat 2025 := by decide
    rw [e5]
    have h0 := fn_30_spec (q := 322) (nq := 405) (r := 323) (nr := 2430) (f := 0) (t := 2025) (am_upd D 321 2 (6 - 1)) (by decide) (by decide) (by decide) (by decide) (by decide)
    have e0 : Int32.ofNat 0 = 0 := rfl
    rw [e0] at h0
    rw [h0]
    refine ⟨_, rfl, fun a j h1 h2 => ?_, ?_, fun j => ?_⟩
    · rw [u_ne h2]
      unfold cp_a
      rw [if_neg (fun z => h1 z.1), u_ne h2, hA a h1]
    · rw [u_self]
      unfold cp_a
      rw [if_neg (fun z => by omega), u_self]
      decide
    · rw [u_ne (fun z => by omega)]
      unfold cp_a
      by_cases hj : 2025 ≤ j ∧ j < 2025 + 405
      · rw [if_pos ⟨rfl, hj⟩, if_neg (by omega), if_pos (by omega), u_row (by decide), hA 322 (by decide), Nat.zero_add]
      · rw [if_neg (fun z => hj z.2), u_row (by decide), hD j]
        by_cases hj2 : j < 2025
        · rw [if_pos hj2, if_pos hj2]
        · rw [if_neg hj2, if_neg hj2, if_neg (by omega)]
  | succ m ih =>
    intro k n D hk hn h6 hD hA
    obtain ⟨n, rfl⟩ : ∃ n', n = n' + 1 := ⟨n - 1, by omega⟩
    have h1 : ¬ (2025 : Int32) ≤ Int32.ofNat k := fun h => by
      have := (n_le (a := 2025) (by omega) (by omega)).mp h
      omega
    have e1 : (405 : Int32) + Int32.ofNat k = Int32.ofNat (405 + k) := n_add 405 k
    rw [fn_31_11, if_neg h1, e1, if_neg (n_bad (by decide) (by omega)), if_neg (n_bad (by decide) (by omega)), c_ofNat (by omega), c_ofNat (by omega), nI_up]
    refine ih (k + 1) n _ (by omega) (by omega) ?_ (fun j => ?_) (fun a ha => ?_)
    · rw [u_row (by decide)]; exact h6
    · by_cases hj : j = k
      · subst hj
        rw [u_self, if_pos (by omega), hD, if_neg (by omega)]
      · rw [u_ne (fun z => hj z.2), hD]
        by_cases hj2 : j < k
        · rw [if_pos hj2, if_pos (by omega)]
        · rw [if_neg hj2, if_neg (by omega)]
    · rw [u_row ha]; exact hA a ha
theorem fn_15_spec {D : am_DD} {o r : Nat} (ho : o < 6) (hr : r ≤ 6) (h : D 56 1 = Int32.ofNat o) : fn_15 (Int32.ofNat r) D = some (Int32.ofNat ((o + r) % 6), D) := by
  unfold fn_15
  rw [h, n_add]
  have := n_mod (a := o + r) (b := 6) (by omega) (by omega) (by omega)
  rw [← this]
  rfl
/-- rows of what the class keeps of saved states -/
def hs_cls (a : Nat) : Prop := a = 56 ∨ (59 ≤ a ∧ a < 251)
theorem cpf_out {s d a : Nat} (hsd : s + 32 ≤ d ∨ d + 32 ≤ s) (D : am_DD) (h : a < d ∨ d + 32 ≤ a) (k : Nat) : ru_cpf s d ru_lay D a k = D a k := by
  rw [ru_cpf_at hsd _ (by decide +kernel), if_neg]
  intro h2
  unfold ru_hit at h2
  obtain ⟨e, he, h3⟩ := List.any_eq_true.mp h2
  simp only [Bool.and_eq_true, decide_eq_true_eq] at h3
  have h4 : ∀ e ∈ ru_lay, e.1 < 32 := by decide +kernel
  have := h4 e he
  omega
theorem hit_shift (d o j : Nat) : ru_hit d (d + o) j ru_lay = st_hit o j := by
  unfold st_hit ru_hit
  congr 1
  funext e
  by_cases h : o = e.1
  · simp [h]
  · have h1 : ¬ d + o = d + e.1 := by omega
    simp [h1, h]
theorem cpf_in {s d o j : Nat} (hsd : s + 32 ≤ d ∨ d + 32 ≤ s) (D : am_DD) (h : st_hit o j = true) : ru_cpf s d ru_lay D (d + o) j = D (s + o) j := by
  rw [ru_cpf_at hsd _ (by decide +kernel), hit_shift, h, if_pos rfl, show d + o - d = o by omega]
theorem mod6_ne {o r r' : Nat} (hr : r < 6) (hr' : r' < 6) (h : r ≠ r') : (o + r) % 6 ≠ (o + r') % 6 := by omega
set_option maxHeartbeats 2000000 in
/-- the class saves its state, the reference saves its own: what is saved stays alike -/
theorem hs_step {B : Nat} {D : am_DD} (hl : st_ok B (D 322) (st_v D 1)) (hh : hs_ok B D) : ∃ D1, fn_22 D = some (0, D1) ∧ (∀ a, ¬ hs_cls a → a ≠ 252 → D1 a = D a) ∧
    ∀ D3 : am_DD, D3 323 = D 323 → D3 321 2 = D 321 2 → D3 322 = D 322 → ∃ D4, fn_31 D3 = some (0, D4) ∧ (∀ a j, ¬ a = 323 → ¬ (a = 321 ∧ j = 2) → D4 a j = D3 a j) ∧
      ∀ D5 : am_DD, (∀ a, hs_cls a → D5 a = D1 a) → (∀ j, D5 323 j = D4 323 j) → D5 321 2 = D4 321 2 → hs_ok B D5 := by
  obtain ⟨o, c, ho, hc, h1, h2, h3, h4⟩ := hh
  have hp : (o + c) % 6 < 6 := Nat.mod_lt _ (by decide)
  generalize hpd : (o + c) % 6 = p at hp
  have hst : sh_store_57 (Int32.ofNat p) D = some (am_upd (ru_cpf 1 (59 + 32 * p) ru_lay D) 252 p 1) := by
    unfold sh_store_57 sh_store
    have h0 : ¬ Int32.ofNat p < 0 := nI_pos (n := p) (by omega)
    rw [if_neg h0, c_ofNat (by omega), if_neg (by omega), rw_put_nI hp (by decide)]
  generalize hD4 : am_upd (ru_cpf 1 (59 + 32 * p) ru_lay D) 252 p 1 = Dc at hst
  have hDc : ∀ a, a ≠ 252 → (a < 59 + 32 * p ∨ 59 + 32 * p + 32 ≤ a) → Dc a = D a := fun a ha hb => by
    rw [← hD4, u_row ha]
    funext k
    exact cpf_out (by omega) D hb k
  have hDi : ∀ q j, st_hit q j = true → Dc (59 + 32 * p + q) j = D (1 + q) j := fun q j hq => by
    have := st_v_hit hq
    rw [← hD4, u_row (by omega)]
    exact cpf_in (by omega) D hq
  have h56 : Dc 56 = D 56 := hDc 56 (by omega) (by omega)
  by_cases h6 : c = 6
  · subst h6
    have hpo : p = o := by omega
    refine ⟨am_upd Dc 56 1 (Int32.ofNat ((o + 1) % 6)), ?_, fun a ha h252 => ?_, fun D3 e1 e2 e3 => ?_⟩
    · unfold fn_22
      rw [h2, fn_15_spec ho (by omega) h1]
      dsimp only
      rw [hpd, hst]
      dsimp only
      rw [h56, h2, if_pos (by decide), show (1 : Int32) = Int32.ofNat 1 from rfl, fn_15_spec ho (by omega) (by rw [h56]; exact h1)]
    · unfold hs_cls at ha
      rw [u_row (by omega), hDc a h252 (by omega)]
    · obtain ⟨D4, g1, g2, g3, g4⟩ := fn_31_11_spec D3 2025 0 100000 D3 (by omega) (by omega) (by rw [e2, h3]; rfl) (fun j => by rw [if_neg (by omega)]) (fun a _ => rfl)
      refine ⟨D4, ?_, fun a j => g2 a j, fun D5 k1 k2 k3 => ?_⟩
      · unfold fn_31
        rw [e2, h3, if_neg (by decide)]
        exact g1
      · refine ⟨(o + 1) % 6, 6, Nat.mod_lt _ (by decide), by omega, ?_, ?_, by rw [k3, g3]; rfl, fun r hr => ?_⟩
        · rw [k1 56 (Or.inl rfl), u_self]
        · rw [k1 56 (Or.inl rfl), u_ne (by omega), h56, h2]
        · by_cases hr5 : r = 5
          · subst hr5
            refine st_congr (fun j hj => ?_) (fun q j hq => ?_) hl
            · show D5 323 (405 * 5 + j) = D 322 j
              rw [k2, g4, if_neg (by omega), if_pos (by omega), e3, show 405 * 5 + j - 2025 = j by omega]
            · have := st_v_hit hq
              have e9 : ((o + 1) % 6 + 5) % 6 = p := by omega
              unfold st_v
              rw [e9, k1 _ (Or.inr (by omega)), u_row (by omega)]
              exact hDi q j hq
          · refine st_congr (fun j hj => ?_) (fun q j hq => ?_) (h4 (r + 1) (by omega))
            · show D5 323 (405 * r + j) = D 323 (405 * (r + 1) + j)
              rw [k2, g4, if_pos (by omega), e1, show 405 + (405 * r + j) = 405 * (r + 1) + j by omega]
            · have := st_v_hit hq
              have e9 : ((o + 1) % 6 + r) % 6 = (o + (r + 1)) % 6 := by omega
              have e8 : (o + (r + 1)) % 6 ≠ p := by omega
              have e7 : (o + (r + 1)) % 6 < 6 := Nat.mod_lt _ (by decide)
              unfold st_v
              rw [e9, k1 _ (Or.inr (by omega)), u_row (by omega), hDc _ (by omega) (by omega)]
  · have hn6 : ¬ (6 : Int32) ≤ Int32.ofNat c := fun h => by
      have := (n_le (a := 6) (by omega) (by omega)).mp h
      omega
    refine ⟨am_upd Dc 56 2 (Int32.ofNat (c + 1)), ?_, fun a ha h252 => ?_, fun D3 e1 e2 e3 => ?_⟩
    · unfold fn_22
      rw [h2, fn_15_spec ho (by omega) h1]
      dsimp only
      rw [hpd, hst]
      dsimp only
      rw [h56, h2, if_neg hn6, nI_up]
    · unfold hs_cls at ha
      rw [u_row (by omega), hDc a h252 (by omega)]
    · have g0 := fn_30_spec (q := 322) (nq := 405) (r := 323) (nr := 2430) (f := 0) (t := 405 * c) D3 (by decide) (by decide) (by omega) (by decide) (by decide)
      refine ⟨am_upd (cp_a D3 322 0 323 (405 * c)) 321 2 (Int32.ofNat (c + 1)), ?_, fun a j ha hb => ?_, fun D5 k1 k2 k3 => ?_⟩
      · unfold fn_31
        have hne : ¬ Int32.ofNat c = 6 := fun h => h6 (n_inj (b := 6) (by omega) (by omega) h)
        have e405 : (405 : Int32) * Int32.ofNat c = Int32.ofNat (405 * c) := n_mul 405 c
        rw [e2, h3, if_pos hne, e405, show (0 : Int32) = Int32.ofNat 0 from rfl, g0]
        dsimp only
        have e9 : cp_a D3 322 0 323 (405 * c) 321 2 = Int32.ofNat c := by
          unfold cp_a
          rw [if_neg (fun z => by omega), e2, h3]
        rw [e9, nI_up]
      · rw [u_ne hb]
        unfold cp_a
        rw [if_neg (fun z => ha z.1)]
      · refine ⟨o, c + 1, ho, by omega, ?_, ?_, by rw [k3, u_self], fun r hr => ?_⟩
        · rw [k1 56 (Or.inl rfl), u_ne (by omega), h56, h1]
        · rw [k1 56 (Or.inl rfl), u_self]
        · by_cases hrc : r = c
          · subst hrc
            refine st_congr (fun j hj => ?_) (fun q j hq => ?_) hl
            · rw [k2, u_ne (by omega)]
              unfold cp_a
              rw [if_pos ⟨rfl, by omega, by omega⟩, e3, show 0 + (405 * r + j - 405 * r) = j by omega]
            · have := st_v_hit hq
              unfold st_v
              rw [hpd, k1 _ (Or.inr (by omega)), u_row (by omega)]
              exact hDi q j hq
          · refine st_congr (fun j hj => ?_) (fun q j hq => ?_) (h4 r (by omega))
            · rw [k2, u_ne (by omega)]
              unfold cp_a
              rw [if_neg (fun z => by omega), e1]
            · have := st_v_hit hq
              have e8 : (o + r) % 6 ≠ p := by omega
              have e7 : (o + r) % 6 < 6 := Nat.mod_lt _ (by decide)
              unfold st_v
              rw [k1 _ (Or.inr (by omega)), u_row (by omega), hDc _ (by omega) (by omega)]
