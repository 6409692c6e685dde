/-! the class's bit count is the number of bits -/
theorem fC_4 {p0 p1 p2 p3 : Nat} (a0 : p0 % 16 ≤ 4) (a1 : p1 % 16 ≤ 4) (a2 : p2 % 16 ≤ 4) (a3 : p3 % 16 ≤ 4) (c0 : p0 / 16 ≤ 4) (c1 : p1 / 16 ≤ 4) (c2 : p2 / 16 ≤ 4) (c3 : p3 / 16 ≤ 4) : fC (by4 p0 p1 p2 p3) = by4 (gC p0) (gC p1) (gC p2) (gC p3) := by
  have e : by4 p0 p1 p2 p3 + by4 p0 p1 p2 p3 / 16 = by4 (p0 + p0 / 16 + 16 * (p1 % 16)) (p1 + p1 / 16 + 16 * (p2 % 16)) (p2 + p2 / 16 + 16 * (p3 % 16)) (p3 + p3 / 16) := by
    unfold by4
    omega
  have a := by4_and (b0 := p0 + p0 / 16 + 16 * (p1 % 16)) (b1 := p1 + p1 / 16 + 16 * (p2 % 16)) (b2 := p2 + p2 / 16 + 16 * (p3 % 16)) (b3 := p3 + p3 / 16) (c := 15) (by omega) (by omega) (by omega) (by omega) (by omega)
  rw [g_4 _ (by omega), g_4 _ (by omega), g_4 _ (by omega), g_4 _ (by omega)] at a
  unfold fC
  rw [e]
  refine a.trans ?_
  unfold gC
  rw [show (p0 + p0 / 16 + 16 * (p1 % 16)) % 16 = p0 % 16 + p0 / 16 by omega, show (p1 + p1 / 16 + 16 * (p2 % 16)) % 16 = p1 % 16 + p1 / 16 by omega, show (p2 + p2 / 16 + 16 * (p3 % 16)) % 16 = p2 % 16 + p2 / 16 by omega, show (p3 + p3 / 16) % 16 = p3 % 16 + p3 / 16 by omega]
theorem f_pb {v : Nat} (h : v < 2 ^ 32) : fE (fC (fB (fA v))) = pb 32 v := by
  obtain ⟨b0, b1, b2, b3, h0, h1, h2, h3, rfl⟩ := by4_of h
  obtain ⟨x0, y0, z0⟩ := g_3 b0 h0
  obtain ⟨x1, y1, z1⟩ := g_3 b1 h1
  obtain ⟨x2, y2, z2⟩ := g_3 b2 h2
  obtain ⟨x3, y3, z3⟩ := g_3 b3 h3
  rw [fA_4 h0 h1 h2 h3, fB_4 h0 h1 h2 h3, fC_4 x0 x1 x2 x3 y0 y1 y2 y3, z0, z1, z2, z3, fE_4 (pb_le 8 b0) (pb_le 8 b1) (pb_le 8 b2) (pb_le 8 b3)]
  have s1 := pb_split 8 24 (by4 b0 b1 b2 b3)
  have s2 := pb_split 8 16 (by4 b0 b1 b2 b3 / 2 ^ 8)
  have s3 := pb_split 8 8 (by4 b0 b1 b2 b3 / 2 ^ 8 / 2 ^ 8)
  have m0 := pb_mod 8 (by4 b0 b1 b2 b3)
  have m1 := pb_mod 8 (by4 b0 b1 b2 b3 / 2 ^ 8)
  have m2 := pb_mod 8 (by4 b0 b1 b2 b3 / 2 ^ 8 / 2 ^ 8)
  have m3 := pb_mod 8 (by4 b0 b1 b2 b3 / 2 ^ 8 / 2 ^ 8 / 2 ^ 8)
  have d0 : by4 b0 b1 b2 b3 % 2 ^ 8 = b0 := by unfold by4; omega
  have d1 : by4 b0 b1 b2 b3 / 2 ^ 8 % 2 ^ 8 = b1 := by unfold by4; omega
  have d2 : by4 b0 b1 b2 b3 / 2 ^ 8 / 2 ^ 8 % 2 ^ 8 = b2 := by unfold by4; omega
  have d3 : by4 b0 b1 b2 b3 / 2 ^ 8 / 2 ^ 8 / 2 ^ 8 % 2 ^ 8 = b3 := by unfold by4; omega
  rw [d0] at m0
  rw [d1] at m1
  rw [d2] at m2
  rw [d3] at m3
  rw [show 8 + 24 = 32 from rfl] at s1
  rw [show 8 + 16 = 24 from rfl] at s2
  rw [show 8 + 8 = 16 from rfl] at s3
  omega
theorem n_and_c (a c : Nat) (C : Int32) (hC : C = Int32.ofNat c) : Int32.ofNat a &&& C = Int32.ofNat (a &&& c) := by rw [hC, n_and]
theorem fn_194_n {v : Nat} (h : v < 2 ^ 31) {D : am_DD} : fn_194 (Int32.ofNat v) D = some (Int32.ofNat (pb 31 v), D) := by
  have p31 : pb 32 v = pb 31 v := by
    have := pb_split 31 1 v
    rw [show 31 + 1 = 32 from rfl, Nat.div_eq_of_lt h, pb_0, Nat.add_zero] at this
    exact this
  have s : ∀ (j a : Nat) (J : Int32), J = Int32.ofNat j → a < 2 ^ 31 → j < 32 → ((Int32.ofNat a).toUInt32 >>> (Int32.toUInt32 J &&& Int32.toUInt32 31)).toInt32 = Int32.ofNat (a / 2 ^ j) := fun j a J hJ ha hj => by rw [hJ]; exact n_shr ha hj
  have c1 : (1431655765 : Int32) = Int32.ofNat 1431655765 := rfl
  have c2 : (858993459 : Int32) = Int32.ofNat 858993459 := rfl
  have c3 : (252645135 : Int32) = Int32.ofNat 252645135 := rfl
  have c4 : (63 : Int32) = Int32.ofNat 63 := rfl
  have a1 : v / 2 ^ 1 &&& 1431655765 ≤ v / 2 ^ 1 := Nat.and_le_left
  have eA : Int32.ofNat v - (((Int32.ofNat v).toUInt32 >>> (Int32.toUInt32 1 &&& Int32.toUInt32 31)).toInt32 &&& 1431655765) = Int32.ofNat (fA v) := by
    rw [s 1 v 1 rfl h (by omega), n_and_c _ _ _ c1, n_sub (by omega) h]
    rfl
  have hA : fA v < 2 ^ 31 := by unfold fA; omega
  have eB : (Int32.ofNat (fA v) &&& 858993459) + (((Int32.ofNat (fA v)).toUInt32 >>> (Int32.toUInt32 2 &&& Int32.toUInt32 31)).toInt32 &&& 858993459) = Int32.ofNat (fB (fA v)) := by
    rw [s 2 (fA v) 2 rfl hA (by omega), n_and_c _ _ _ c2, n_and_c _ _ _ c2, n_add]
    rfl
  have hB : fB (fA v) ≤ 858993459 + 858993459 := by
    have x1 : fA v &&& 858993459 ≤ 858993459 := Nat.and_le_right
    have x2 : fA v / 4 &&& 858993459 ≤ 858993459 := Nat.and_le_right
    unfold fB
    omega
  have eC : (Int32.ofNat (fB (fA v)) + ((Int32.ofNat (fB (fA v))).toUInt32 >>> (Int32.toUInt32 4 &&& Int32.toUInt32 31)).toInt32) &&& 252645135 = Int32.ofNat (fC (fB (fA v))) := by
    rw [s 4 (fB (fA v)) 4 rfl (by omega) (by omega), n_add, n_and_c _ _ _ c3]
    rfl
  have hC : fC (fB (fA v)) ≤ 252645135 := Nat.and_le_right
  have eD : Int32.ofNat (fC (fB (fA v))) + ((Int32.ofNat (fC (fB (fA v)))).toUInt32 >>> (Int32.toUInt32 8 &&& Int32.toUInt32 31)).toInt32 = Int32.ofNat (fC (fB (fA v)) + fC (fB (fA v)) / 256) := by
    rw [s 8 (fC (fB (fA v))) 8 rfl (by omega) (by omega), n_add]
  have eE : (Int32.ofNat (fC (fB (fA v)) + fC (fB (fA v)) / 256) + ((Int32.ofNat (fC (fB (fA v)) + fC (fB (fA v)) / 256)).toUInt32 >>> (Int32.toUInt32 16 &&& Int32.toUInt32 31)).toInt32) &&& 63 = Int32.ofNat (fE (fC (fB (fA v)))) := by
    rw [s 16 _ 16 rfl (by omega) (by omega), n_add, n_and_c _ _ _ c4]
    rfl
  unfold fn_194
  simp only [eA, eB, eC, eD, eE]
  rw [f_pb (by omega), p31]
