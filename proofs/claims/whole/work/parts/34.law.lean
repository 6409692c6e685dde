/-! the law's frame and its helpers: runs with what an exception costs -/
def ay_mc (a : Nat) (As : List Value) (D : am_DD) (v : Option Value) (D' : am_DD) (c s : Nat) : Prop := ∃ r, ay_ev none a 0 (am_L0 a As) [] D r D' c s ∧ am_end a r = some (.inl v)
def ay_tc (i pc : Nat) (L : am_LL) (S : List Value) (D : am_DD) (v : Option Value) (D' : am_DD) (c s : Nat) : Prop := ∃ r, ay_ev none i pc L S D r D' c s ∧ am_end i r = some (.inl v)
def ay_lL (i : Int32) : am_LL := [some (.ref am_scr), some (.ref 0), some (.ref 321), some (.ref 329), some (.int i), none, none, none, none]
/-- one call of the law: from behind its bound to its loop head -/
def ay_lw (n : Nat) (xs : Nat → Int32) (i : Int32) (D D' : am_DD) (c s : Nat) : Prop := ∃ w5 w6 w7 w8, ay_ev (some (n, xs)) 240 32 (ay_lL i) [] D (23, [some (.ref am_scr), some (.ref 0), some (.ref 321), some (.ref 329), some (.int (i + 4)), w5, w6, w7, w8], []) D' c s
section AYW
variable {scr : Option (Nat × (Nat → Int32))} {i pc len g a b pc' c s c1 s1 n : Nat} {xs : Nat → Int32} {ins : Instr} {L L' : am_LL} {S S' S1 As : List Value} {D D' D1 D2 : am_DD} {r : am_R} {v : Option Value} {E t k : Nat}
theorem ay_mc_of {As : List Value} {L : am_LL} (hL : am_L0 a As = L) (k : ay_tc a 0 L [] D v D2 c s) : ay_mc a As D v D2 c s := by
  unfold ay_mc
  rw [hL]
  exact k
theorem ay_mc_mo (h : ay_mo a As D (.inl v) D2) : ay_mc a As D v D2 0 0 := h
theorem ay_c_stk (hf : am_fetch i pc = some (ins, len, 0, a, b)) (h : am_stk ins S = some S') (kk : ay_tc i (pc + len) L S' D v D2 c s) : ay_tc i pc L S D v D2 c s := let ⟨r, h1, h2⟩ := kk; ⟨r, ay_e_stk hf h h1, h2⟩
theorem ay_c_loc (hf : am_fetch i pc = some (ins, len, 1, a, b)) (h : am_loc ins L S = some (L', S')) (kk : ay_tc i (pc + len) L' S' D v D2 c s) : ay_tc i pc L S D v D2 c s := let ⟨r, h1, h2⟩ := kk; ⟨r, ay_e_loc hf h h1, h2⟩
theorem ay_c_br (hf : am_fetch i pc = some (ins, len, 2, a, b)) (h : am_br ins a pc S = some (pc', S')) (kk : ay_tc i pc' L S' D v D2 c s) : ay_tc i pc L S D v D2 c s := let ⟨r, h1, h2⟩ := kk; ⟨r, ay_e_br hf h h1, h2⟩
theorem ay_c_call {w : Option Value} (hf : am_fetch i pc = some (ins, len, 7, a, b)) (hA : am_args a S = some (As, S1)) (hr : am_rcv ins a As ay_SK = true) (hm : ay_mo a As D (.inl w) D1) (kk : ay_tc i (pc + 3) L (w.toList ++ S1) D1 v D2 c s) : ay_tc i pc L S D v D2 c s := let ⟨r, h1, h2⟩ := kk; ⟨r, ay_e_call hf hA hr hm h1, h2⟩
theorem ay_c_callX (hf : am_fetch i pc = some (ins, len, 7, a, b)) (hA : am_args a S = some (As, S1)) (hr : am_rcv ins a As ay_SK = true) (hm : ay_mo a As D (.inr E) D1) (hh : am_hnd i pc E = some (t, k)) (hcl : am_clear L k = true) (kk : ay_tc i t (L.set k none) [] D1 v D2 c s) : ay_tc i pc L S D v D2 (0 + 1 + c) (0 + 6 + s) := let ⟨r, h1, h2⟩ := kk; ⟨r, ay_e_callX hf hA hr hm hh hcl h1, h2⟩
theorem ay_c_iret {x : Int32} {ty : FieldType} (hf : am_fetch i pc = some (.ireturn, len, 8, a, b)) (hr : am_ret i = some ty) (hn : narrow ty (.int x) = .int x) : ay_tc i pc L [.int x] D (some (.int x)) D 0 0 := ⟨_, ay_e_end hf (by decide), by simp [am_end, hf, hr, hn]⟩
theorem ay_las (x : Int32) : am_wr false .lastore a b (.long x.toInt64 :: .int 0 :: .ref 329 :: S) ay_SK D = some (S, ay_SK, am_upd D 329 0 x) := by
  have e : x.toInt64.toInt32 = x := lg_l2i_i2l x
  simp only [am_wr, at_329, e]
  rw [if_neg (by simp)]
  rfl
theorem ay_c_las {x : Int32} (hf : am_fetch i pc = some (.lastore, len, 4, a, b)) (kk : ay_tc i (pc + len) L S (am_upd D 329 0 x) v D2 c s) : ay_tc i pc L (.long x.toInt64 :: .int 0 :: .ref 329 :: S) D v D2 c s := let ⟨r, h1, h2⟩ := kk; ⟨r, ay_e_wr hf (ay_las x) h1, h2⟩
theorem ay_e_callC (hf : am_fetch i pc = some (ins, len, 7, a, b)) (hA : am_args a S = some (As, S1)) (hr : am_rcv ins a As ay_SK = true) (hm : ay_mc a As D v D1 c1 s1) (kk : ay_ev scr i (pc + 3) L (v.toList ++ S1) D1 r D2 c s) : ay_ev scr i pc L S D r D2 (c1 + c) (s1 + s) := by
  obtain ⟨r1, ⟨n1, h1⟩, he⟩ := hm
  obtain ⟨n2, h2⟩ := kk
  have h3 := ay_mono n1 n2 _ _ _ _ _ _ _ _ _ h1
  have h4 := ay_mono n2 n1 _ _ _ _ _ _ _ _ _ h2
  rw [Nat.add_comm] at h4
  refine ⟨(n1 + n2) + 1, ?_⟩
  rw [am_run, hf]
  simp only [show ¬ 8 ≤ 7 by decide, if_false, if_true, hA, hr, h3, he, h4]
  rfl
theorem ay_e_scr {x v : Int32} (hf : am_fetch i pc = some (.iaload, len, 3, a, b)) (hq : ¬ (x < 0 ∨ n ≤ x.toNatClampNeg)) (he : xs x.toNatClampNeg = v) (kk : ay_ev (some (n, xs)) i (pc + len) L (.int v :: S) D r D2 c s) : ay_ev (some (n, xs)) i pc L (.int x :: .ref am_scr :: S) D r D2 c s :=
  ay_e_rd hf (by simp only [am_rd, if_true, if_neg hq, he]) kk
theorem ay_e_lal (hf : am_fetch i pc = some (.laload, len, 3, a, b)) (kk : ay_ev scr i (pc + len) L (.long (D 329 0).toInt64 :: S) D r D2 c s) : ay_ev scr i pc L (.int 0 :: .ref 329 :: S) D r D2 c s :=
  ay_e_rd hf (by simp only [am_rd, at_329]; rw [if_neg (by decide)]; rfl) kk
theorem ay_e_pos {P : Prop} [Decidable P] (hP : P) (hf : am_fetch i pc = some (ins, len, 2, a, b)) (h : am_br ins a pc S = am_go (decide P) a pc S') (k1 : ay_ev scr i a L S' D r D2 c s) : ay_ev scr i pc L S D r D2 c s := ay_e_br hf (by rw [h, decide_eq_true hP]; rfl) k1
theorem ay_e_neg {P : Prop} [Decidable P] (hP : ¬ P) (hf : am_fetch i pc = some (ins, len, 2, a, b)) (h : am_br ins a pc S = am_go (decide P) a pc S') (k1 : ay_ev scr i (pc + 3) L S' D r D2 c s) : ay_ev scr i pc L S D r D2 c s := ay_e_br hf (by rw [h, decide_eq_false hP]; rfl) k1
theorem ay_cmp0 (x : Int64) : lg_cmp x x = 0 := by
  unfold lg_cmp
  simp
theorem ay_m35 : ay_mo 35 [.ref 321] D (.inl (some (.int (D 321 7)))) D := ev_35 rfl
end AYW
set_option maxRecDepth 100000 in
theorem fe_240_23 : am_fetch 240 23 = some (.iload 4, 2, 10, 0, 0) := by decide +kernel
set_option maxRecDepth 100000 in
theorem fe_240_25 : am_fetch 240 25 = some (.aload_n 0, 1, 1, 0, 0) := by decide +kernel
set_option maxRecDepth 100000 in
theorem fe_240_26 : am_fetch 240 26 = some (.arraylength, 1, 3, 0, 0) := by decide +kernel
set_option maxRecDepth 100000 in
theorem fe_240_27 : am_fetch 240 27 = some (.iconst 4, 1, 0, 0, 0) := by decide +kernel
set_option maxRecDepth 100000 in
theorem fe_240_28 : am_fetch 240 28 = some (.isub, 1, 0, 0, 0) := by decide +kernel
set_option maxRecDepth 100000 in
theorem fe_240_29 : am_fetch 240 29 = some (.if_icmp .gt 1720, 3, 2, 1749, 0) := by decide +kernel
set_option maxRecDepth 100000 in
theorem fe_240_32 : am_fetch 240 32 = some (.aload_n 0, 1, 1, 0, 0) := by decide +kernel
set_option maxRecDepth 100000 in
theorem fe_240_33 : am_fetch 240 33 = some (.iload 4, 2, 1, 0, 0) := by decide +kernel
set_option maxRecDepth 100000 in
theorem fe_240_35 : am_fetch 240 35 = some (.iaload, 1, 3, 0, 0) := by decide +kernel
set_option maxRecDepth 100000 in
theorem fe_240_36 : am_fetch 240 36 = some (.bipush 31, 2, 0, 0, 0) := by decide +kernel
set_option maxRecDepth 100000 in
theorem fe_240_38 : am_fetch 240 38 = some (.iand, 1, 0, 0, 0) := by decide +kernel
set_option maxRecDepth 100000 in
theorem fe_240_39 : am_fetch 240 39 = some (.tableswitch 1704 0 28 #[129, 185, 265, 333, 389, 457, 513, 569, 625, 681, 694, 707, 751, 795, 851, 907, 975, 1043, 1111, 1167, 1235, 1291, 1347, 1390, 1470, 1538, 1594, 1650, 1663], 129, 2, 0, 0) := by decide +kernel
set_option maxRecDepth 100000 in
theorem fe_240_168 : am_fetch 240 168 = some (.aload_n 1, 1, 1, 0, 0) := by decide +kernel
set_option maxRecDepth 100000 in
theorem fe_240_169 : am_fetch 240 169 = some (.aload_n 0, 1, 1, 0, 0) := by decide +kernel
set_option maxRecDepth 100000 in
theorem fe_240_170 : am_fetch 240 170 = some (.iload 4, 2, 1, 0, 0) := by decide +kernel
set_option maxRecDepth 100000 in
theorem fe_240_172 : am_fetch 240 172 = some (.iconst 1, 1, 0, 0, 0) := by decide +kernel
set_option maxRecDepth 100000 in
theorem fe_240_173 : am_fetch 240 173 = some (.iadd, 1, 0, 0, 0) := by decide +kernel
set_option maxRecDepth 100000 in
theorem fe_240_174 : am_fetch 240 174 = some (.iaload, 1, 3, 0, 0) := by decide +kernel
set_option maxRecDepth 100000 in
theorem fe_240_175 : am_fetch 240 175 = some (.aload_n 3, 1, 1, 0, 0) := by decide +kernel
set_option maxRecDepth 100000 in
theorem fe_240_176 : am_fetch 240 176 = some (.invokestatic 95, 3, 7, 25, 0) := by decide +kernel
set_option maxRecDepth 100000 in
theorem fe_240_179 : am_fetch 240 179 = some (.istore 5, 2, 1, 0, 0) := by decide +kernel
set_option maxRecDepth 100000 in
theorem fe_240_181 : am_fetch 240 181 = some (.aload_n 2, 1, 1, 0, 0) := by decide +kernel
set_option maxRecDepth 100000 in
theorem fe_240_182 : am_fetch 240 182 = some (.aload_n 0, 1, 1, 0, 0) := by decide +kernel
set_option maxRecDepth 100000 in
theorem fe_240_183 : am_fetch 240 183 = some (.iload 4, 2, 1, 0, 0) := by decide +kernel
set_option maxRecDepth 100000 in
theorem fe_240_185 : am_fetch 240 185 = some (.iconst 1, 1, 0, 0, 0) := by decide +kernel
set_option maxRecDepth 100000 in
theorem fe_240_186 : am_fetch 240 186 = some (.iadd, 1, 0, 0, 0) := by decide +kernel
set_option maxRecDepth 100000 in
theorem fe_240_187 : am_fetch 240 187 = some (.iaload, 1, 3, 0, 0) := by decide +kernel
set_option maxRecDepth 100000 in
theorem fe_240_188 : am_fetch 240 188 = some (.invokevirtual 100, 3, 7, 34, 0) := by decide +kernel
set_option maxRecDepth 100000 in
theorem fe_240_191 : am_fetch 240 191 = some (.istore 6, 2, 1, 0, 0) := by decide +kernel
set_option maxRecDepth 100000 in
theorem fe_240_193 : am_fetch 240 193 = some (.aload_n 2, 1, 1, 0, 0) := by decide +kernel
set_option maxRecDepth 100000 in
theorem fe_240_194 : am_fetch 240 194 = some (.invokevirtual 101, 3, 7, 35, 0) := by decide +kernel
set_option maxRecDepth 100000 in
theorem fe_240_197 : am_fetch 240 197 = some (.iload 5, 2, 1, 0, 0) := by decide +kernel
set_option maxRecDepth 100000 in
theorem fe_240_199 : am_fetch 240 199 = some (.if_icmp .eq 5, 3, 2, 204, 0) := by decide +kernel
set_option maxRecDepth 100000 in
theorem fe_240_202 : am_fetch 240 202 = some (.iconst 0, 1, 0, 0, 0) := by decide +kernel
set_option maxRecDepth 100000 in
theorem fe_240_203 : am_fetch 240 203 = some (.ireturn, 1, 8, 0, 0) := by decide +kernel
set_option maxRecDepth 100000 in
theorem fe_240_204 : am_fetch 240 204 = some (.iload 5, 2, 1, 0, 0) := by decide +kernel
set_option maxRecDepth 100000 in
theorem fe_240_206 : am_fetch 240 206 = some (.ifCond .ne 15, 3, 2, 221, 0) := by decide +kernel
set_option maxRecDepth 100000 in
theorem fe_240_209 : am_fetch 240 209 = some (.aload_n 3, 1, 1, 0, 0) := by decide +kernel
set_option maxRecDepth 100000 in
theorem fe_240_210 : am_fetch 240 210 = some (.iconst 0, 1, 0, 0, 0) := by decide +kernel
set_option maxRecDepth 100000 in
theorem fe_240_211 : am_fetch 240 211 = some (.laload, 1, 3, 0, 0) := by decide +kernel
set_option maxRecDepth 100000 in
theorem fe_240_212 : am_fetch 240 212 = some (.iload 6, 2, 1, 0, 0) := by decide +kernel
set_option maxRecDepth 100000 in
theorem fe_240_214 : am_fetch 240 214 = some (.i2l, 1, 0, 0, 0) := by decide +kernel
set_option maxRecDepth 100000 in
theorem fe_240_215 : am_fetch 240 215 = some (.lcmp, 1, 0, 0, 0) := by decide +kernel
set_option maxRecDepth 100000 in
theorem fe_240_216 : am_fetch 240 216 = some (.ifCond .eq 5, 3, 2, 221, 0) := by decide +kernel
set_option maxRecDepth 100000 in
theorem fe_240_219 : am_fetch 240 219 = some (.iconst 0, 1, 0, 0, 0) := by decide +kernel
set_option maxRecDepth 100000 in
theorem fe_240_220 : am_fetch 240 220 = some (.ireturn, 1, 8, 0, 0) := by decide +kernel
set_option maxRecDepth 100000 in
theorem fe_240_221 : am_fetch 240 221 = some (.goto 1522, 3, 2, 1743, 0) := by decide +kernel
set_option maxRecDepth 100000 in
theorem fe_240_224 : am_fetch 240 224 = some (.aload_n 1, 1, 1, 0, 0) := by decide +kernel
set_option maxRecDepth 100000 in
theorem fe_240_225 : am_fetch 240 225 = some (.aload_n 0, 1, 1, 0, 0) := by decide +kernel
set_option maxRecDepth 100000 in
theorem fe_240_226 : am_fetch 240 226 = some (.iload 4, 2, 1, 0, 0) := by decide +kernel
set_option maxRecDepth 100000 in
theorem fe_240_228 : am_fetch 240 228 = some (.iconst 1, 1, 0, 0, 0) := by decide +kernel
set_option maxRecDepth 100000 in
theorem fe_240_229 : am_fetch 240 229 = some (.iadd, 1, 0, 0, 0) := by decide +kernel
set_option maxRecDepth 100000 in
theorem fe_240_230 : am_fetch 240 230 = some (.iaload, 1, 3, 0, 0) := by decide +kernel
set_option maxRecDepth 100000 in
theorem fe_240_231 : am_fetch 240 231 = some (.aload_n 0, 1, 1, 0, 0) := by decide +kernel
set_option maxRecDepth 100000 in
theorem fe_240_232 : am_fetch 240 232 = some (.iload 4, 2, 1, 0, 0) := by decide +kernel
set_option maxRecDepth 100000 in
theorem fe_240_234 : am_fetch 240 234 = some (.iconst 2, 1, 0, 0, 0) := by decide +kernel
set_option maxRecDepth 100000 in
theorem fe_240_235 : am_fetch 240 235 = some (.iadd, 1, 0, 0, 0) := by decide +kernel
set_option maxRecDepth 100000 in
theorem fe_240_236 : am_fetch 240 236 = some (.iaload, 1, 3, 0, 0) := by decide +kernel
set_option maxRecDepth 100000 in
theorem fe_240_237 : am_fetch 240 237 = some (.aload_n 0, 1, 1, 0, 0) := by decide +kernel
set_option maxRecDepth 100000 in
theorem fe_240_238 : am_fetch 240 238 = some (.iload 4, 2, 1, 0, 0) := by decide +kernel
set_option maxRecDepth 100000 in
theorem fe_240_240 : am_fetch 240 240 = some (.iconst 3, 1, 0, 0, 0) := by decide +kernel
set_option maxRecDepth 100000 in
theorem fe_240_241 : am_fetch 240 241 = some (.iadd, 1, 0, 0, 0) := by decide +kernel
set_option maxRecDepth 100000 in
theorem fe_240_242 : am_fetch 240 242 = some (.iaload, 1, 3, 0, 0) := by decide +kernel
set_option maxRecDepth 100000 in
theorem fe_240_243 : am_fetch 240 243 = some (.aload_n 3, 1, 1, 0, 0) := by decide +kernel
set_option maxRecDepth 100000 in
theorem fe_240_244 : am_fetch 240 244 = some (.invokestatic 104, 3, 7, 43, 0) := by decide +kernel
set_option maxRecDepth 100000 in
theorem fe_240_247 : am_fetch 240 247 = some (.istore 5, 2, 1, 0, 0) := by decide +kernel
set_option maxRecDepth 100000 in
theorem fe_240_249 : am_fetch 240 249 = some (.aload_n 2, 1, 1, 0, 0) := by decide +kernel
set_option maxRecDepth 100000 in
theorem fe_240_250 : am_fetch 240 250 = some (.aload_n 0, 1, 1, 0, 0) := by decide +kernel
set_option maxRecDepth 100000 in
theorem fe_240_251 : am_fetch 240 251 = some (.iload 4, 2, 1, 0, 0) := by decide +kernel
set_option maxRecDepth 100000 in
theorem fe_240_253 : am_fetch 240 253 = some (.iconst 1, 1, 0, 0, 0) := by decide +kernel
set_option maxRecDepth 100000 in
theorem fe_240_254 : am_fetch 240 254 = some (.iadd, 1, 0, 0, 0) := by decide +kernel
set_option maxRecDepth 100000 in
theorem fe_240_255 : am_fetch 240 255 = some (.iaload, 1, 3, 0, 0) := by decide +kernel
set_option maxRecDepth 100000 in
theorem fe_240_256 : am_fetch 240 256 = some (.aload_n 0, 1, 1, 0, 0) := by decide +kernel
set_option maxRecDepth 100000 in
theorem fe_240_257 : am_fetch 240 257 = some (.iload 4, 2, 1, 0, 0) := by decide +kernel
set_option maxRecDepth 100000 in
theorem fe_240_259 : am_fetch 240 259 = some (.iconst 2, 1, 0, 0, 0) := by decide +kernel
set_option maxRecDepth 100000 in
theorem fe_240_260 : am_fetch 240 260 = some (.iadd, 1, 0, 0, 0) := by decide +kernel
set_option maxRecDepth 100000 in
theorem fe_240_261 : am_fetch 240 261 = some (.iaload, 1, 3, 0, 0) := by decide +kernel
set_option maxRecDepth 100000 in
theorem fe_240_262 : am_fetch 240 262 = some (.aload_n 0, 1, 1, 0, 0) := by decide +kernel
set_option maxRecDepth 100000 in
theorem fe_240_263 : am_fetch 240 263 = some (.iload 4, 2, 1, 0, 0) := by decide +kernel
set_option maxRecDepth 100000 in
theorem fe_240_265 : am_fetch 240 265 = some (.iconst 3, 1, 0, 0, 0) := by decide +kernel
set_option maxRecDepth 100000 in
theorem fe_240_266 : am_fetch 240 266 = some (.iadd, 1, 0, 0, 0) := by decide +kernel
set_option maxRecDepth 100000 in
theorem fe_240_267 : am_fetch 240 267 = some (.iaload, 1, 3, 0, 0) := by decide +kernel
set_option maxRecDepth 100000 in
theorem fe_240_268 : am_fetch 240 268 = some (.invokevirtual 107, 3, 7, 50, 0) := by decide +kernel
set_option maxRecDepth 100000 in
theorem fe_240_271 : am_fetch 240 271 = some (.istore 6, 2, 1, 0, 0) := by decide +kernel
set_option maxRecDepth 100000 in
theorem fe_240_273 : am_fetch 240 273 = some (.aload_n 2, 1, 1, 0, 0) := by decide +kernel
set_option maxRecDepth 100000 in
theorem fe_240_274 : am_fetch 240 274 = some (.invokevirtual 101, 3, 7, 35, 0) := by decide +kernel
set_option maxRecDepth 100000 in
theorem fe_240_277 : am_fetch 240 277 = some (.iload 5, 2, 1, 0, 0) := by decide +kernel
set_option maxRecDepth 100000 in
theorem fe_240_279 : am_fetch 240 279 = some (.if_icmp .eq 5, 3, 2, 284, 0) := by decide +kernel
set_option maxRecDepth 100000 in
theorem fe_240_282 : am_fetch 240 282 = some (.iconst 0, 1, 0, 0, 0) := by decide +kernel
set_option maxRecDepth 100000 in
theorem fe_240_283 : am_fetch 240 283 = some (.ireturn, 1, 8, 0, 0) := by decide +kernel
set_option maxRecDepth 100000 in
theorem fe_240_284 : am_fetch 240 284 = some (.iload 5, 2, 1, 0, 0) := by decide +kernel
set_option maxRecDepth 100000 in
theorem fe_240_286 : am_fetch 240 286 = some (.ifCond .ne 15, 3, 2, 301, 0) := by decide +kernel
set_option maxRecDepth 100000 in
theorem fe_240_289 : am_fetch 240 289 = some (.aload_n 3, 1, 1, 0, 0) := by decide +kernel
set_option maxRecDepth 100000 in
theorem fe_240_290 : am_fetch 240 290 = some (.iconst 0, 1, 0, 0, 0) := by decide +kernel
set_option maxRecDepth 100000 in
theorem fe_240_291 : am_fetch 240 291 = some (.laload, 1, 3, 0, 0) := by decide +kernel
set_option maxRecDepth 100000 in
theorem fe_240_292 : am_fetch 240 292 = some (.iload 6, 2, 1, 0, 0) := by decide +kernel
set_option maxRecDepth 100000 in
theorem fe_240_294 : am_fetch 240 294 = some (.i2l, 1, 0, 0, 0) := by decide +kernel
set_option maxRecDepth 100000 in
theorem fe_240_295 : am_fetch 240 295 = some (.lcmp, 1, 0, 0, 0) := by decide +kernel
set_option maxRecDepth 100000 in
theorem fe_240_296 : am_fetch 240 296 = some (.ifCond .eq 5, 3, 2, 301, 0) := by decide +kernel
set_option maxRecDepth 100000 in
theorem fe_240_299 : am_fetch 240 299 = some (.iconst 0, 1, 0, 0, 0) := by decide +kernel
set_option maxRecDepth 100000 in
theorem fe_240_300 : am_fetch 240 300 = some (.ireturn, 1, 8, 0, 0) := by decide +kernel
set_option maxRecDepth 100000 in
theorem fe_240_301 : am_fetch 240 301 = some (.goto 1442, 3, 2, 1743, 0) := by decide +kernel
set_option maxRecDepth 100000 in
theorem fe_240_304 : am_fetch 240 304 = some (.aload_n 1, 1, 1, 0, 0) := by decide +kernel
set_option maxRecDepth 100000 in
theorem fe_240_305 : am_fetch 240 305 = some (.aload_n 0, 1, 1, 0, 0) := by decide +kernel
set_option maxRecDepth 100000 in
theorem fe_240_306 : am_fetch 240 306 = some (.iload 4, 2, 1, 0, 0) := by decide +kernel
set_option maxRecDepth 100000 in
theorem fe_240_308 : am_fetch 240 308 = some (.iconst 1, 1, 0, 0, 0) := by decide +kernel
set_option maxRecDepth 100000 in
theorem fe_240_309 : am_fetch 240 309 = some (.iadd, 1, 0, 0, 0) := by decide +kernel
set_option maxRecDepth 100000 in
theorem fe_240_310 : am_fetch 240 310 = some (.iaload, 1, 3, 0, 0) := by decide +kernel
set_option maxRecDepth 100000 in
theorem fe_240_311 : am_fetch 240 311 = some (.aload_n 0, 1, 1, 0, 0) := by decide +kernel
set_option maxRecDepth 100000 in
theorem fe_240_312 : am_fetch 240 312 = some (.iload 4, 2, 1, 0, 0) := by decide +kernel
set_option maxRecDepth 100000 in
theorem fe_240_314 : am_fetch 240 314 = some (.iconst 2, 1, 0, 0, 0) := by decide +kernel
set_option maxRecDepth 100000 in
theorem fe_240_315 : am_fetch 240 315 = some (.iadd, 1, 0, 0, 0) := by decide +kernel
set_option maxRecDepth 100000 in
theorem fe_240_316 : am_fetch 240 316 = some (.iaload, 1, 3, 0, 0) := by decide +kernel
set_option maxRecDepth 100000 in
theorem fe_240_317 : am_fetch 240 317 = some (.aload_n 3, 1, 1, 0, 0) := by decide +kernel
set_option maxRecDepth 100000 in
theorem fe_240_318 : am_fetch 240 318 = some (.invokestatic 108, 3, 7, 53, 0) := by decide +kernel
set_option maxRecDepth 100000 in
theorem fe_240_321 : am_fetch 240 321 = some (.istore 5, 2, 1, 0, 0) := by decide +kernel
set_option maxRecDepth 100000 in
theorem fe_240_323 : am_fetch 240 323 = some (.aload_n 2, 1, 1, 0, 0) := by decide +kernel
set_option maxRecDepth 100000 in
theorem fe_240_324 : am_fetch 240 324 = some (.aload_n 0, 1, 1, 0, 0) := by decide +kernel
set_option maxRecDepth 100000 in
theorem fe_240_325 : am_fetch 240 325 = some (.iload 4, 2, 1, 0, 0) := by decide +kernel
set_option maxRecDepth 100000 in
theorem fe_240_327 : am_fetch 240 327 = some (.iconst 1, 1, 0, 0, 0) := by decide +kernel
set_option maxRecDepth 100000 in
theorem fe_240_328 : am_fetch 240 328 = some (.iadd, 1, 0, 0, 0) := by decide +kernel
set_option maxRecDepth 100000 in
theorem fe_240_329 : am_fetch 240 329 = some (.iaload, 1, 3, 0, 0) := by decide +kernel
set_option maxRecDepth 100000 in
theorem fe_240_330 : am_fetch 240 330 = some (.aload_n 0, 1, 1, 0, 0) := by decide +kernel
set_option maxRecDepth 100000 in
theorem fe_240_331 : am_fetch 240 331 = some (.iload 4, 2, 1, 0, 0) := by decide +kernel
set_option maxRecDepth 100000 in
theorem fe_240_333 : am_fetch 240 333 = some (.iconst 2, 1, 0, 0, 0) := by decide +kernel
set_option maxRecDepth 100000 in
theorem fe_240_334 : am_fetch 240 334 = some (.iadd, 1, 0, 0, 0) := by decide +kernel
set_option maxRecDepth 100000 in
theorem fe_240_335 : am_fetch 240 335 = some (.iaload, 1, 3, 0, 0) := by decide +kernel
set_option maxRecDepth 100000 in
theorem fe_240_336 : am_fetch 240 336 = some (.invokevirtual 111, 3, 7, 54, 0) := by decide +kernel
set_option maxRecDepth 100000 in
theorem fe_240_339 : am_fetch 240 339 = some (.istore 6, 2, 1, 0, 0) := by decide +kernel
set_option maxRecDepth 100000 in
theorem fe_240_341 : am_fetch 240 341 = some (.aload_n 2, 1, 1, 0, 0) := by decide +kernel
set_option maxRecDepth 100000 in
theorem fe_240_342 : am_fetch 240 342 = some (.invokevirtual 101, 3, 7, 35, 0) := by decide +kernel
set_option maxRecDepth 100000 in
theorem fe_240_345 : am_fetch 240 345 = some (.iload 5, 2, 1, 0, 0) := by decide +kernel
set_option maxRecDepth 100000 in
theorem fe_240_347 : am_fetch 240 347 = some (.if_icmp .eq 5, 3, 2, 352, 0) := by decide +kernel
set_option maxRecDepth 100000 in
theorem fe_240_350 : am_fetch 240 350 = some (.iconst 0, 1, 0, 0, 0) := by decide +kernel
set_option maxRecDepth 100000 in
theorem fe_240_351 : am_fetch 240 351 = some (.ireturn, 1, 8, 0, 0) := by decide +kernel
set_option maxRecDepth 100000 in
theorem fe_240_352 : am_fetch 240 352 = some (.iload 5, 2, 1, 0, 0) := by decide +kernel
set_option maxRecDepth 100000 in
theorem fe_240_354 : am_fetch 240 354 = some (.ifCond .ne 15, 3, 2, 369, 0) := by decide +kernel
set_option maxRecDepth 100000 in
theorem fe_240_357 : am_fetch 240 357 = some (.aload_n 3, 1, 1, 0, 0) := by decide +kernel
set_option maxRecDepth 100000 in
theorem fe_240_358 : am_fetch 240 358 = some (.iconst 0, 1, 0, 0, 0) := by decide +kernel
set_option maxRecDepth 100000 in
theorem fe_240_359 : am_fetch 240 359 = some (.laload, 1, 3, 0, 0) := by decide +kernel
set_option maxRecDepth 100000 in
theorem fe_240_360 : am_fetch 240 360 = some (.iload 6, 2, 1, 0, 0) := by decide +kernel
set_option maxRecDepth 100000 in
theorem fe_240_362 : am_fetch 240 362 = some (.i2l, 1, 0, 0, 0) := by decide +kernel
set_option maxRecDepth 100000 in
theorem fe_240_363 : am_fetch 240 363 = some (.lcmp, 1, 0, 0, 0) := by decide +kernel
set_option maxRecDepth 100000 in
theorem fe_240_364 : am_fetch 240 364 = some (.ifCond .eq 5, 3, 2, 369, 0) := by decide +kernel
set_option maxRecDepth 100000 in
theorem fe_240_367 : am_fetch 240 367 = some (.iconst 0, 1, 0, 0, 0) := by decide +kernel
set_option maxRecDepth 100000 in
theorem fe_240_368 : am_fetch 240 368 = some (.ireturn, 1, 8, 0, 0) := by decide +kernel
set_option maxRecDepth 100000 in
theorem fe_240_369 : am_fetch 240 369 = some (.goto 1374, 3, 2, 1743, 0) := by decide +kernel
set_option maxRecDepth 100000 in
theorem fe_240_372 : am_fetch 240 372 = some (.aload_n 1, 1, 1, 0, 0) := by decide +kernel
set_option maxRecDepth 100000 in
theorem fe_240_373 : am_fetch 240 373 = some (.aload_n 0, 1, 1, 0, 0) := by decide +kernel
set_option maxRecDepth 100000 in
theorem fe_240_374 : am_fetch 240 374 = some (.iload 4, 2, 1, 0, 0) := by decide +kernel
set_option maxRecDepth 100000 in
theorem fe_240_376 : am_fetch 240 376 = some (.iconst 1, 1, 0, 0, 0) := by decide +kernel
set_option maxRecDepth 100000 in
theorem fe_240_377 : am_fetch 240 377 = some (.iadd, 1, 0, 0, 0) := by decide +kernel
set_option maxRecDepth 100000 in
theorem fe_240_378 : am_fetch 240 378 = some (.iaload, 1, 3, 0, 0) := by decide +kernel
set_option maxRecDepth 100000 in
theorem fe_240_379 : am_fetch 240 379 = some (.aload_n 3, 1, 1, 0, 0) := by decide +kernel
set_option maxRecDepth 100000 in
theorem fe_240_380 : am_fetch 240 380 = some (.invokestatic 112, 3, 7, 58, 0) := by decide +kernel
set_option maxRecDepth 100000 in
theorem fe_240_383 : am_fetch 240 383 = some (.istore 5, 2, 1, 0, 0) := by decide +kernel
set_option maxRecDepth 100000 in
theorem fe_240_385 : am_fetch 240 385 = some (.aload_n 2, 1, 1, 0, 0) := by decide +kernel
set_option maxRecDepth 100000 in
theorem fe_240_386 : am_fetch 240 386 = some (.aload_n 0, 1, 1, 0, 0) := by decide +kernel
set_option maxRecDepth 100000 in
theorem fe_240_387 : am_fetch 240 387 = some (.iload 4, 2, 1, 0, 0) := by decide +kernel
set_option maxRecDepth 100000 in
theorem fe_240_389 : am_fetch 240 389 = some (.iconst 1, 1, 0, 0, 0) := by decide +kernel
set_option maxRecDepth 100000 in
theorem fe_240_390 : am_fetch 240 390 = some (.iadd, 1, 0, 0, 0) := by decide +kernel
set_option maxRecDepth 100000 in
theorem fe_240_391 : am_fetch 240 391 = some (.iaload, 1, 3, 0, 0) := by decide +kernel
set_option maxRecDepth 100000 in
theorem fe_240_392 : am_fetch 240 392 = some (.invokevirtual 114, 3, 7, 60, 0) := by decide +kernel
set_option maxRecDepth 100000 in
theorem fe_240_395 : am_fetch 240 395 = some (.istore 6, 2, 1, 0, 0) := by decide +kernel
set_option maxRecDepth 100000 in
theorem fe_240_397 : am_fetch 240 397 = some (.aload_n 2, 1, 1, 0, 0) := by decide +kernel
set_option maxRecDepth 100000 in
theorem fe_240_398 : am_fetch 240 398 = some (.invokevirtual 101, 3, 7, 35, 0) := by decide +kernel
set_option maxRecDepth 100000 in
theorem fe_240_401 : am_fetch 240 401 = some (.iload 5, 2, 1, 0, 0) := by decide +kernel
set_option maxRecDepth 100000 in
theorem fe_240_403 : am_fetch 240 403 = some (.if_icmp .eq 5, 3, 2, 408, 0) := by decide +kernel
set_option maxRecDepth 100000 in
theorem fe_240_406 : am_fetch 240 406 = some (.iconst 0, 1, 0, 0, 0) := by decide +kernel
set_option maxRecDepth 100000 in
theorem fe_240_407 : am_fetch 240 407 = some (.ireturn, 1, 8, 0, 0) := by decide +kernel
set_option maxRecDepth 100000 in
theorem fe_240_408 : am_fetch 240 408 = some (.iload 5, 2, 1, 0, 0) := by decide +kernel
set_option maxRecDepth 100000 in
theorem fe_240_410 : am_fetch 240 410 = some (.ifCond .ne 15, 3, 2, 425, 0) := by decide +kernel
set_option maxRecDepth 100000 in
theorem fe_240_413 : am_fetch 240 413 = some (.aload_n 3, 1, 1, 0, 0) := by decide +kernel
set_option maxRecDepth 100000 in
theorem fe_240_414 : am_fetch 240 414 = some (.iconst 0, 1, 0, 0, 0) := by decide +kernel
set_option maxRecDepth 100000 in
theorem fe_240_415 : am_fetch 240 415 = some (.laload, 1, 3, 0, 0) := by decide +kernel
set_option maxRecDepth 100000 in
theorem fe_240_416 : am_fetch 240 416 = some (.iload 6, 2, 1, 0, 0) := by decide +kernel
set_option maxRecDepth 100000 in
theorem fe_240_418 : am_fetch 240 418 = some (.i2l, 1, 0, 0, 0) := by decide +kernel
set_option maxRecDepth 100000 in
theorem fe_240_419 : am_fetch 240 419 = some (.lcmp, 1, 0, 0, 0) := by decide +kernel
set_option maxRecDepth 100000 in
theorem fe_240_420 : am_fetch 240 420 = some (.ifCond .eq 5, 3, 2, 425, 0) := by decide +kernel
set_option maxRecDepth 100000 in
theorem fe_240_423 : am_fetch 240 423 = some (.iconst 0, 1, 0, 0, 0) := by decide +kernel
set_option maxRecDepth 100000 in
theorem fe_240_424 : am_fetch 240 424 = some (.ireturn, 1, 8, 0, 0) := by decide +kernel
set_option maxRecDepth 100000 in
theorem fe_240_425 : am_fetch 240 425 = some (.goto 1318, 3, 2, 1743, 0) := by decide +kernel
set_option maxRecDepth 100000 in
theorem fe_240_428 : am_fetch 240 428 = some (.aload_n 1, 1, 1, 0, 0) := by decide +kernel
set_option maxRecDepth 100000 in
theorem fe_240_429 : am_fetch 240 429 = some (.aload_n 0, 1, 1, 0, 0) := by decide +kernel
set_option maxRecDepth 100000 in
theorem fe_240_430 : am_fetch 240 430 = some (.iload 4, 2, 1, 0, 0) := by decide +kernel
set_option maxRecDepth 100000 in
theorem fe_240_432 : am_fetch 240 432 = some (.iconst 1, 1, 0, 0, 0) := by decide +kernel
set_option maxRecDepth 100000 in
theorem fe_240_433 : am_fetch 240 433 = some (.iadd, 1, 0, 0, 0) := by decide +kernel
set_option maxRecDepth 100000 in
theorem fe_240_434 : am_fetch 240 434 = some (.iaload, 1, 3, 0, 0) := by decide +kernel
set_option maxRecDepth 100000 in
theorem fe_240_435 : am_fetch 240 435 = some (.aload_n 0, 1, 1, 0, 0) := by decide +kernel
set_option maxRecDepth 100000 in
theorem fe_240_436 : am_fetch 240 436 = some (.iload 4, 2, 1, 0, 0) := by decide +kernel
set_option maxRecDepth 100000 in
theorem fe_240_438 : am_fetch 240 438 = some (.iconst 2, 1, 0, 0, 0) := by decide +kernel
set_option maxRecDepth 100000 in
theorem fe_240_439 : am_fetch 240 439 = some (.iadd, 1, 0, 0, 0) := by decide +kernel
set_option maxRecDepth 100000 in
theorem fe_240_440 : am_fetch 240 440 = some (.iaload, 1, 3, 0, 0) := by decide +kernel
set_option maxRecDepth 100000 in
theorem fe_240_441 : am_fetch 240 441 = some (.aload_n 3, 1, 1, 0, 0) := by decide +kernel
set_option maxRecDepth 100000 in
theorem fe_240_442 : am_fetch 240 442 = some (.invokestatic 115, 3, 7, 62, 0) := by decide +kernel
set_option maxRecDepth 100000 in
theorem fe_240_445 : am_fetch 240 445 = some (.istore 5, 2, 1, 0, 0) := by decide +kernel
set_option maxRecDepth 100000 in
theorem fe_240_447 : am_fetch 240 447 = some (.aload_n 2, 1, 1, 0, 0) := by decide +kernel
set_option maxRecDepth 100000 in
theorem fe_240_448 : am_fetch 240 448 = some (.aload_n 0, 1, 1, 0, 0) := by decide +kernel
set_option maxRecDepth 100000 in
theorem fe_240_449 : am_fetch 240 449 = some (.iload 4, 2, 1, 0, 0) := by decide +kernel
set_option maxRecDepth 100000 in
theorem fe_240_451 : am_fetch 240 451 = some (.iconst 1, 1, 0, 0, 0) := by decide +kernel
set_option maxRecDepth 100000 in
theorem fe_240_452 : am_fetch 240 452 = some (.iadd, 1, 0, 0, 0) := by decide +kernel
set_option maxRecDepth 100000 in
theorem fe_240_453 : am_fetch 240 453 = some (.iaload, 1, 3, 0, 0) := by decide +kernel
set_option maxRecDepth 100000 in
theorem fe_240_454 : am_fetch 240 454 = some (.aload_n 0, 1, 1, 0, 0) := by decide +kernel
set_option maxRecDepth 100000 in
theorem fe_240_455 : am_fetch 240 455 = some (.iload 4, 2, 1, 0, 0) := by decide +kernel
set_option maxRecDepth 100000 in
theorem fe_240_457 : am_fetch 240 457 = some (.iconst 2, 1, 0, 0, 0) := by decide +kernel
set_option maxRecDepth 100000 in
theorem fe_240_458 : am_fetch 240 458 = some (.iadd, 1, 0, 0, 0) := by decide +kernel
set_option maxRecDepth 100000 in
theorem fe_240_459 : am_fetch 240 459 = some (.iaload, 1, 3, 0, 0) := by decide +kernel
set_option maxRecDepth 100000 in
theorem fe_240_460 : am_fetch 240 460 = some (.invokevirtual 117, 3, 7, 63, 0) := by decide +kernel
set_option maxRecDepth 100000 in
theorem fe_240_463 : am_fetch 240 463 = some (.istore 6, 2, 1, 0, 0) := by decide +kernel
set_option maxRecDepth 100000 in
theorem fe_240_465 : am_fetch 240 465 = some (.aload_n 2, 1, 1, 0, 0) := by decide +kernel
set_option maxRecDepth 100000 in
theorem fe_240_466 : am_fetch 240 466 = some (.invokevirtual 101, 3, 7, 35, 0) := by decide +kernel
set_option maxRecDepth 100000 in
theorem fe_240_469 : am_fetch 240 469 = some (.iload 5, 2, 1, 0, 0) := by decide +kernel
set_option maxRecDepth 100000 in
theorem fe_240_471 : am_fetch 240 471 = some (.if_icmp .eq 5, 3, 2, 476, 0) := by decide +kernel
set_option maxRecDepth 100000 in
theorem fe_240_474 : am_fetch 240 474 = some (.iconst 0, 1, 0, 0, 0) := by decide +kernel
set_option maxRecDepth 100000 in
theorem fe_240_475 : am_fetch 240 475 = some (.ireturn, 1, 8, 0, 0) := by decide +kernel
set_option maxRecDepth 100000 in
theorem fe_240_476 : am_fetch 240 476 = some (.iload 5, 2, 1, 0, 0) := by decide +kernel
set_option maxRecDepth 100000 in
theorem fe_240_478 : am_fetch 240 478 = some (.ifCond .ne 15, 3, 2, 493, 0) := by decide +kernel
set_option maxRecDepth 100000 in
theorem fe_240_481 : am_fetch 240 481 = some (.aload_n 3, 1, 1, 0, 0) := by decide +kernel
set_option maxRecDepth 100000 in
theorem fe_240_482 : am_fetch 240 482 = some (.iconst 0, 1, 0, 0, 0) := by decide +kernel
set_option maxRecDepth 100000 in
theorem fe_240_483 : am_fetch 240 483 = some (.laload, 1, 3, 0, 0) := by decide +kernel
set_option maxRecDepth 100000 in
theorem fe_240_484 : am_fetch 240 484 = some (.iload 6, 2, 1, 0, 0) := by decide +kernel
set_option maxRecDepth 100000 in
theorem fe_240_486 : am_fetch 240 486 = some (.i2l, 1, 0, 0, 0) := by decide +kernel
set_option maxRecDepth 100000 in
theorem fe_240_487 : am_fetch 240 487 = some (.lcmp, 1, 0, 0, 0) := by decide +kernel
set_option maxRecDepth 100000 in
theorem fe_240_488 : am_fetch 240 488 = some (.ifCond .eq 5, 3, 2, 493, 0) := by decide +kernel
set_option maxRecDepth 100000 in
theorem fe_240_491 : am_fetch 240 491 = some (.iconst 0, 1, 0, 0, 0) := by decide +kernel
set_option maxRecDepth 100000 in
theorem fe_240_492 : am_fetch 240 492 = some (.ireturn, 1, 8, 0, 0) := by decide +kernel
set_option maxRecDepth 100000 in
theorem fe_240_493 : am_fetch 240 493 = some (.goto 1250, 3, 2, 1743, 0) := by decide +kernel
set_option maxRecDepth 100000 in
theorem fe_240_496 : am_fetch 240 496 = some (.aload_n 1, 1, 1, 0, 0) := by decide +kernel
set_option maxRecDepth 100000 in
theorem fe_240_497 : am_fetch 240 497 = some (.aload_n 0, 1, 1, 0, 0) := by decide +kernel
set_option maxRecDepth 100000 in
theorem fe_240_498 : am_fetch 240 498 = some (.iload 4, 2, 1, 0, 0) := by decide +kernel
set_option maxRecDepth 100000 in
theorem fe_240_500 : am_fetch 240 500 = some (.iconst 1, 1, 0, 0, 0) := by decide +kernel
set_option maxRecDepth 100000 in
theorem fe_240_501 : am_fetch 240 501 = some (.iadd, 1, 0, 0, 0) := by decide +kernel
set_option maxRecDepth 100000 in
theorem fe_240_502 : am_fetch 240 502 = some (.iaload, 1, 3, 0, 0) := by decide +kernel
set_option maxRecDepth 100000 in
theorem fe_240_503 : am_fetch 240 503 = some (.aload_n 3, 1, 1, 0, 0) := by decide +kernel
set_option maxRecDepth 100000 in
theorem fe_240_504 : am_fetch 240 504 = some (.invokestatic 118, 3, 7, 67, 0) := by decide +kernel
set_option maxRecDepth 100000 in
theorem fe_240_507 : am_fetch 240 507 = some (.istore 5, 2, 1, 0, 0) := by decide +kernel
set_option maxRecDepth 100000 in
theorem fe_240_509 : am_fetch 240 509 = some (.aload_n 2, 1, 1, 0, 0) := by decide +kernel
set_option maxRecDepth 100000 in
theorem fe_240_510 : am_fetch 240 510 = some (.aload_n 0, 1, 1, 0, 0) := by decide +kernel
set_option maxRecDepth 100000 in
theorem fe_240_511 : am_fetch 240 511 = some (.iload 4, 2, 1, 0, 0) := by decide +kernel
set_option maxRecDepth 100000 in
theorem fe_240_513 : am_fetch 240 513 = some (.iconst 1, 1, 0, 0, 0) := by decide +kernel
set_option maxRecDepth 100000 in
theorem fe_240_514 : am_fetch 240 514 = some (.iadd, 1, 0, 0, 0) := by decide +kernel
set_option maxRecDepth 100000 in
theorem fe_240_515 : am_fetch 240 515 = some (.iaload, 1, 3, 0, 0) := by decide +kernel
set_option maxRecDepth 100000 in
theorem fe_240_516 : am_fetch 240 516 = some (.invokevirtual 120, 3, 7, 70, 0) := by decide +kernel
set_option maxRecDepth 100000 in
theorem fe_240_519 : am_fetch 240 519 = some (.istore 6, 2, 1, 0, 0) := by decide +kernel
set_option maxRecDepth 100000 in
theorem fe_240_521 : am_fetch 240 521 = some (.aload_n 2, 1, 1, 0, 0) := by decide +kernel
set_option maxRecDepth 100000 in
theorem fe_240_522 : am_fetch 240 522 = some (.invokevirtual 101, 3, 7, 35, 0) := by decide +kernel
set_option maxRecDepth 100000 in
theorem fe_240_525 : am_fetch 240 525 = some (.iload 5, 2, 1, 0, 0) := by decide +kernel
set_option maxRecDepth 100000 in
theorem fe_240_527 : am_fetch 240 527 = some (.if_icmp .eq 5, 3, 2, 532, 0) := by decide +kernel
set_option maxRecDepth 100000 in
theorem fe_240_530 : am_fetch 240 530 = some (.iconst 0, 1, 0, 0, 0) := by decide +kernel
set_option maxRecDepth 100000 in
theorem fe_240_531 : am_fetch 240 531 = some (.ireturn, 1, 8, 0, 0) := by decide +kernel
set_option maxRecDepth 100000 in
theorem fe_240_532 : am_fetch 240 532 = some (.iload 5, 2, 1, 0, 0) := by decide +kernel
set_option maxRecDepth 100000 in
theorem fe_240_534 : am_fetch 240 534 = some (.ifCond .ne 15, 3, 2, 549, 0) := by decide +kernel
set_option maxRecDepth 100000 in
theorem fe_240_537 : am_fetch 240 537 = some (.aload_n 3, 1, 1, 0, 0) := by decide +kernel
set_option maxRecDepth 100000 in
theorem fe_240_538 : am_fetch 240 538 = some (.iconst 0, 1, 0, 0, 0) := by decide +kernel
set_option maxRecDepth 100000 in
theorem fe_240_539 : am_fetch 240 539 = some (.laload, 1, 3, 0, 0) := by decide +kernel
set_option maxRecDepth 100000 in
theorem fe_240_540 : am_fetch 240 540 = some (.iload 6, 2, 1, 0, 0) := by decide +kernel
set_option maxRecDepth 100000 in
theorem fe_240_542 : am_fetch 240 542 = some (.i2l, 1, 0, 0, 0) := by decide +kernel
set_option maxRecDepth 100000 in
theorem fe_240_543 : am_fetch 240 543 = some (.lcmp, 1, 0, 0, 0) := by decide +kernel
set_option maxRecDepth 100000 in
theorem fe_240_544 : am_fetch 240 544 = some (.ifCond .eq 5, 3, 2, 549, 0) := by decide +kernel
set_option maxRecDepth 100000 in
theorem fe_240_547 : am_fetch 240 547 = some (.iconst 0, 1, 0, 0, 0) := by decide +kernel
set_option maxRecDepth 100000 in
theorem fe_240_548 : am_fetch 240 548 = some (.ireturn, 1, 8, 0, 0) := by decide +kernel
set_option maxRecDepth 100000 in
theorem fe_240_549 : am_fetch 240 549 = some (.goto 1194, 3, 2, 1743, 0) := by decide +kernel
set_option maxRecDepth 100000 in
theorem fe_240_552 : am_fetch 240 552 = some (.aload_n 1, 1, 1, 0, 0) := by decide +kernel
set_option maxRecDepth 100000 in
theorem fe_240_553 : am_fetch 240 553 = some (.aload_n 0, 1, 1, 0, 0) := by decide +kernel
set_option maxRecDepth 100000 in
theorem fe_240_554 : am_fetch 240 554 = some (.iload 4, 2, 1, 0, 0) := by decide +kernel
set_option maxRecDepth 100000 in
theorem fe_240_556 : am_fetch 240 556 = some (.iconst 1, 1, 0, 0, 0) := by decide +kernel
set_option maxRecDepth 100000 in
theorem fe_240_557 : am_fetch 240 557 = some (.iadd, 1, 0, 0, 0) := by decide +kernel
set_option maxRecDepth 100000 in
theorem fe_240_558 : am_fetch 240 558 = some (.iaload, 1, 3, 0, 0) := by decide +kernel
set_option maxRecDepth 100000 in
theorem fe_240_559 : am_fetch 240 559 = some (.aload_n 3, 1, 1, 0, 0) := by decide +kernel
set_option maxRecDepth 100000 in
theorem fe_240_560 : am_fetch 240 560 = some (.invokestatic 121, 3, 7, 82, 0) := by decide +kernel
set_option maxRecDepth 100000 in
theorem fe_240_563 : am_fetch 240 563 = some (.istore 5, 2, 1, 0, 0) := by decide +kernel
set_option maxRecDepth 100000 in
theorem fe_240_565 : am_fetch 240 565 = some (.aload_n 2, 1, 1, 0, 0) := by decide +kernel
set_option maxRecDepth 100000 in
theorem fe_240_566 : am_fetch 240 566 = some (.aload_n 0, 1, 1, 0, 0) := by decide +kernel
set_option maxRecDepth 100000 in
theorem fe_240_567 : am_fetch 240 567 = some (.iload 4, 2, 1, 0, 0) := by decide +kernel
set_option maxRecDepth 100000 in
theorem fe_240_569 : am_fetch 240 569 = some (.iconst 1, 1, 0, 0, 0) := by decide +kernel
set_option maxRecDepth 100000 in
theorem fe_240_570 : am_fetch 240 570 = some (.iadd, 1, 0, 0, 0) := by decide +kernel
set_option maxRecDepth 100000 in
theorem fe_240_571 : am_fetch 240 571 = some (.iaload, 1, 3, 0, 0) := by decide +kernel
set_option maxRecDepth 100000 in
theorem fe_240_572 : am_fetch 240 572 = some (.invokevirtual 123, 3, 7, 90, 0) := by decide +kernel
set_option maxRecDepth 100000 in
theorem fe_240_575 : am_fetch 240 575 = some (.istore 6, 2, 1, 0, 0) := by decide +kernel
set_option maxRecDepth 100000 in
theorem fe_240_577 : am_fetch 240 577 = some (.aload_n 2, 1, 1, 0, 0) := by decide +kernel
set_option maxRecDepth 100000 in
theorem fe_240_578 : am_fetch 240 578 = some (.invokevirtual 101, 3, 7, 35, 0) := by decide +kernel
set_option maxRecDepth 100000 in
theorem fe_240_581 : am_fetch 240 581 = some (.iload 5, 2, 1, 0, 0) := by decide +kernel
set_option maxRecDepth 100000 in
theorem fe_240_583 : am_fetch 240 583 = some (.if_icmp .eq 5, 3, 2, 588, 0) := by decide +kernel
set_option maxRecDepth 100000 in
theorem fe_240_586 : am_fetch 240 586 = some (.iconst 0, 1, 0, 0, 0) := by decide +kernel
set_option maxRecDepth 100000 in
theorem fe_240_587 : am_fetch 240 587 = some (.ireturn, 1, 8, 0, 0) := by decide +kernel
set_option maxRecDepth 100000 in
theorem fe_240_588 : am_fetch 240 588 = some (.iload 5, 2, 1, 0, 0) := by decide +kernel
set_option maxRecDepth 100000 in
theorem fe_240_590 : am_fetch 240 590 = some (.ifCond .ne 15, 3, 2, 605, 0) := by decide +kernel
set_option maxRecDepth 100000 in
theorem fe_240_593 : am_fetch 240 593 = some (.aload_n 3, 1, 1, 0, 0) := by decide +kernel
set_option maxRecDepth 100000 in
theorem fe_240_594 : am_fetch 240 594 = some (.iconst 0, 1, 0, 0, 0) := by decide +kernel
set_option maxRecDepth 100000 in
theorem fe_240_595 : am_fetch 240 595 = some (.laload, 1, 3, 0, 0) := by decide +kernel
set_option maxRecDepth 100000 in
theorem fe_240_596 : am_fetch 240 596 = some (.iload 6, 2, 1, 0, 0) := by decide +kernel
set_option maxRecDepth 100000 in
theorem fe_240_598 : am_fetch 240 598 = some (.i2l, 1, 0, 0, 0) := by decide +kernel
set_option maxRecDepth 100000 in
theorem fe_240_599 : am_fetch 240 599 = some (.lcmp, 1, 0, 0, 0) := by decide +kernel
set_option maxRecDepth 100000 in
theorem fe_240_600 : am_fetch 240 600 = some (.ifCond .eq 5, 3, 2, 605, 0) := by decide +kernel
set_option maxRecDepth 100000 in
theorem fe_240_603 : am_fetch 240 603 = some (.iconst 0, 1, 0, 0, 0) := by decide +kernel
set_option maxRecDepth 100000 in
theorem fe_240_604 : am_fetch 240 604 = some (.ireturn, 1, 8, 0, 0) := by decide +kernel
set_option maxRecDepth 100000 in
theorem fe_240_605 : am_fetch 240 605 = some (.goto 1138, 3, 2, 1743, 0) := by decide +kernel
set_option maxRecDepth 100000 in
theorem fe_240_608 : am_fetch 240 608 = some (.aload_n 1, 1, 1, 0, 0) := by decide +kernel
set_option maxRecDepth 100000 in
theorem fe_240_609 : am_fetch 240 609 = some (.aload_n 0, 1, 1, 0, 0) := by decide +kernel
set_option maxRecDepth 100000 in
theorem fe_240_610 : am_fetch 240 610 = some (.iload 4, 2, 1, 0, 0) := by decide +kernel
set_option maxRecDepth 100000 in
theorem fe_240_612 : am_fetch 240 612 = some (.iconst 1, 1, 0, 0, 0) := by decide +kernel
set_option maxRecDepth 100000 in
theorem fe_240_613 : am_fetch 240 613 = some (.iadd, 1, 0, 0, 0) := by decide +kernel
set_option maxRecDepth 100000 in
theorem fe_240_614 : am_fetch 240 614 = some (.iaload, 1, 3, 0, 0) := by decide +kernel
set_option maxRecDepth 100000 in
theorem fe_240_615 : am_fetch 240 615 = some (.aload_n 3, 1, 1, 0, 0) := by decide +kernel
set_option maxRecDepth 100000 in
theorem fe_240_616 : am_fetch 240 616 = some (.invokestatic 124, 3, 7, 94, 0) := by decide +kernel
set_option maxRecDepth 100000 in
theorem fe_240_619 : am_fetch 240 619 = some (.istore 5, 2, 1, 0, 0) := by decide +kernel
set_option maxRecDepth 100000 in
theorem fe_240_621 : am_fetch 240 621 = some (.aload_n 2, 1, 1, 0, 0) := by decide +kernel
set_option maxRecDepth 100000 in
theorem fe_240_622 : am_fetch 240 622 = some (.aload_n 0, 1, 1, 0, 0) := by decide +kernel
set_option maxRecDepth 100000 in
theorem fe_240_623 : am_fetch 240 623 = some (.iload 4, 2, 1, 0, 0) := by decide +kernel
set_option maxRecDepth 100000 in
theorem fe_240_625 : am_fetch 240 625 = some (.iconst 1, 1, 0, 0, 0) := by decide +kernel
set_option maxRecDepth 100000 in
theorem fe_240_626 : am_fetch 240 626 = some (.iadd, 1, 0, 0, 0) := by decide +kernel
set_option maxRecDepth 100000 in
theorem fe_240_627 : am_fetch 240 627 = some (.iaload, 1, 3, 0, 0) := by decide +kernel
set_option maxRecDepth 100000 in
theorem fe_240_628 : am_fetch 240 628 = some (.invokevirtual 126, 3, 7, 95, 0) := by decide +kernel
set_option maxRecDepth 100000 in
theorem fe_240_631 : am_fetch 240 631 = some (.istore 6, 2, 1, 0, 0) := by decide +kernel
set_option maxRecDepth 100000 in
theorem fe_240_633 : am_fetch 240 633 = some (.aload_n 2, 1, 1, 0, 0) := by decide +kernel
set_option maxRecDepth 100000 in
theorem fe_240_634 : am_fetch 240 634 = some (.invokevirtual 101, 3, 7, 35, 0) := by decide +kernel
set_option maxRecDepth 100000 in
theorem fe_240_637 : am_fetch 240 637 = some (.iload 5, 2, 1, 0, 0) := by decide +kernel
set_option maxRecDepth 100000 in
theorem fe_240_639 : am_fetch 240 639 = some (.if_icmp .eq 5, 3, 2, 644, 0) := by decide +kernel
set_option maxRecDepth 100000 in
theorem fe_240_642 : am_fetch 240 642 = some (.iconst 0, 1, 0, 0, 0) := by decide +kernel
set_option maxRecDepth 100000 in
theorem fe_240_643 : am_fetch 240 643 = some (.ireturn, 1, 8, 0, 0) := by decide +kernel
set_option maxRecDepth 100000 in
theorem fe_240_644 : am_fetch 240 644 = some (.iload 5, 2, 1, 0, 0) := by decide +kernel
set_option maxRecDepth 100000 in
theorem fe_240_646 : am_fetch 240 646 = some (.ifCond .ne 15, 3, 2, 661, 0) := by decide +kernel
set_option maxRecDepth 100000 in
theorem fe_240_649 : am_fetch 240 649 = some (.aload_n 3, 1, 1, 0, 0) := by decide +kernel
set_option maxRecDepth 100000 in
theorem fe_240_650 : am_fetch 240 650 = some (.iconst 0, 1, 0, 0, 0) := by decide +kernel
set_option maxRecDepth 100000 in
theorem fe_240_651 : am_fetch 240 651 = some (.laload, 1, 3, 0, 0) := by decide +kernel
set_option maxRecDepth 100000 in
theorem fe_240_652 : am_fetch 240 652 = some (.iload 6, 2, 1, 0, 0) := by decide +kernel
set_option maxRecDepth 100000 in
theorem fe_240_654 : am_fetch 240 654 = some (.i2l, 1, 0, 0, 0) := by decide +kernel
set_option maxRecDepth 100000 in
theorem fe_240_655 : am_fetch 240 655 = some (.lcmp, 1, 0, 0, 0) := by decide +kernel
set_option maxRecDepth 100000 in
theorem fe_240_656 : am_fetch 240 656 = some (.ifCond .eq 5, 3, 2, 661, 0) := by decide +kernel
set_option maxRecDepth 100000 in
theorem fe_240_659 : am_fetch 240 659 = some (.iconst 0, 1, 0, 0, 0) := by decide +kernel
set_option maxRecDepth 100000 in
theorem fe_240_660 : am_fetch 240 660 = some (.ireturn, 1, 8, 0, 0) := by decide +kernel
set_option maxRecDepth 100000 in
theorem fe_240_661 : am_fetch 240 661 = some (.goto 1082, 3, 2, 1743, 0) := by decide +kernel
set_option maxRecDepth 100000 in
theorem fe_240_664 : am_fetch 240 664 = some (.aload_n 1, 1, 1, 0, 0) := by decide +kernel
set_option maxRecDepth 100000 in
theorem fe_240_665 : am_fetch 240 665 = some (.aload_n 0, 1, 1, 0, 0) := by decide +kernel
set_option maxRecDepth 100000 in
theorem fe_240_666 : am_fetch 240 666 = some (.iload 4, 2, 1, 0, 0) := by decide +kernel
set_option maxRecDepth 100000 in
theorem fe_240_668 : am_fetch 240 668 = some (.iconst 1, 1, 0, 0, 0) := by decide +kernel
set_option maxRecDepth 100000 in
theorem fe_240_669 : am_fetch 240 669 = some (.iadd, 1, 0, 0, 0) := by decide +kernel
set_option maxRecDepth 100000 in
theorem fe_240_670 : am_fetch 240 670 = some (.iaload, 1, 3, 0, 0) := by decide +kernel
set_option maxRecDepth 100000 in
theorem fe_240_671 : am_fetch 240 671 = some (.aload_n 3, 1, 1, 0, 0) := by decide +kernel
set_option maxRecDepth 100000 in
theorem fe_240_672 : am_fetch 240 672 = some (.invokestatic 127, 3, 7, 99, 0) := by decide +kernel
set_option maxRecDepth 100000 in
theorem fe_240_675 : am_fetch 240 675 = some (.istore 5, 2, 1, 0, 0) := by decide +kernel
set_option maxRecDepth 100000 in
theorem fe_240_677 : am_fetch 240 677 = some (.aload_n 2, 1, 1, 0, 0) := by decide +kernel
set_option maxRecDepth 100000 in
theorem fe_240_678 : am_fetch 240 678 = some (.aload_n 0, 1, 1, 0, 0) := by decide +kernel
set_option maxRecDepth 100000 in
theorem fe_240_679 : am_fetch 240 679 = some (.iload 4, 2, 1, 0, 0) := by decide +kernel
set_option maxRecDepth 100000 in
theorem fe_240_681 : am_fetch 240 681 = some (.iconst 1, 1, 0, 0, 0) := by decide +kernel
set_option maxRecDepth 100000 in
theorem fe_240_682 : am_fetch 240 682 = some (.iadd, 1, 0, 0, 0) := by decide +kernel
set_option maxRecDepth 100000 in
theorem fe_240_683 : am_fetch 240 683 = some (.iaload, 1, 3, 0, 0) := by decide +kernel
set_option maxRecDepth 100000 in
theorem fe_240_684 : am_fetch 240 684 = some (.invokevirtual 129, 3, 7, 100, 0) := by decide +kernel
set_option maxRecDepth 100000 in
theorem fe_240_687 : am_fetch 240 687 = some (.istore 6, 2, 1, 0, 0) := by decide +kernel
set_option maxRecDepth 100000 in
theorem fe_240_689 : am_fetch 240 689 = some (.aload_n 2, 1, 1, 0, 0) := by decide +kernel
set_option maxRecDepth 100000 in
theorem fe_240_690 : am_fetch 240 690 = some (.invokevirtual 101, 3, 7, 35, 0) := by decide +kernel
set_option maxRecDepth 100000 in
theorem fe_240_693 : am_fetch 240 693 = some (.iload 5, 2, 1, 0, 0) := by decide +kernel
set_option maxRecDepth 100000 in
theorem fe_240_695 : am_fetch 240 695 = some (.if_icmp .eq 5, 3, 2, 700, 0) := by decide +kernel
set_option maxRecDepth 100000 in
theorem fe_240_698 : am_fetch 240 698 = some (.iconst 0, 1, 0, 0, 0) := by decide +kernel
set_option maxRecDepth 100000 in
theorem fe_240_699 : am_fetch 240 699 = some (.ireturn, 1, 8, 0, 0) := by decide +kernel
set_option maxRecDepth 100000 in
theorem fe_240_700 : am_fetch 240 700 = some (.iload 5, 2, 1, 0, 0) := by decide +kernel
set_option maxRecDepth 100000 in
theorem fe_240_702 : am_fetch 240 702 = some (.ifCond .ne 15, 3, 2, 717, 0) := by decide +kernel
set_option maxRecDepth 100000 in
theorem fe_240_705 : am_fetch 240 705 = some (.aload_n 3, 1, 1, 0, 0) := by decide +kernel
set_option maxRecDepth 100000 in
theorem fe_240_706 : am_fetch 240 706 = some (.iconst 0, 1, 0, 0, 0) := by decide +kernel
set_option maxRecDepth 100000 in
theorem fe_240_707 : am_fetch 240 707 = some (.laload, 1, 3, 0, 0) := by decide +kernel
set_option maxRecDepth 100000 in
theorem fe_240_708 : am_fetch 240 708 = some (.iload 6, 2, 1, 0, 0) := by decide +kernel
set_option maxRecDepth 100000 in
theorem fe_240_710 : am_fetch 240 710 = some (.i2l, 1, 0, 0, 0) := by decide +kernel
set_option maxRecDepth 100000 in
theorem fe_240_711 : am_fetch 240 711 = some (.lcmp, 1, 0, 0, 0) := by decide +kernel
set_option maxRecDepth 100000 in
theorem fe_240_712 : am_fetch 240 712 = some (.ifCond .eq 5, 3, 2, 717, 0) := by decide +kernel
set_option maxRecDepth 100000 in
theorem fe_240_715 : am_fetch 240 715 = some (.iconst 0, 1, 0, 0, 0) := by decide +kernel
set_option maxRecDepth 100000 in
theorem fe_240_716 : am_fetch 240 716 = some (.ireturn, 1, 8, 0, 0) := by decide +kernel
set_option maxRecDepth 100000 in
theorem fe_240_717 : am_fetch 240 717 = some (.goto 1026, 3, 2, 1743, 0) := by decide +kernel
set_option maxRecDepth 100000 in
theorem fe_240_720 : am_fetch 240 720 = some (.aload_n 1, 1, 1, 0, 0) := by decide +kernel
set_option maxRecDepth 100000 in
theorem fe_240_721 : am_fetch 240 721 = some (.invokevirtual 130, 3, 7, 102, 0) := by decide +kernel
set_option maxRecDepth 100000 in
theorem fe_240_724 : am_fetch 240 724 = some (.aload_n 2, 1, 1, 0, 0) := by decide +kernel
set_option maxRecDepth 100000 in
theorem fe_240_725 : am_fetch 240 725 = some (.invokevirtual 133, 3, 7, 103, 0) := by decide +kernel
set_option maxRecDepth 100000 in
theorem fe_240_728 : am_fetch 240 728 = some (.if_icmp .eq 1015, 3, 2, 1743, 0) := by decide +kernel
set_option maxRecDepth 100000 in
theorem fe_240_731 : am_fetch 240 731 = some (.iconst 0, 1, 0, 0, 0) := by decide +kernel
set_option maxRecDepth 100000 in
theorem fe_240_732 : am_fetch 240 732 = some (.ireturn, 1, 8, 0, 0) := by decide +kernel
set_option maxRecDepth 100000 in
theorem fe_240_733 : am_fetch 240 733 = some (.aload_n 1, 1, 1, 0, 0) := by decide +kernel
set_option maxRecDepth 100000 in
theorem fe_240_734 : am_fetch 240 734 = some (.invokevirtual 134, 3, 7, 118, 0) := by decide +kernel
set_option maxRecDepth 100000 in
theorem fe_240_737 : am_fetch 240 737 = some (.aload_n 2, 1, 1, 0, 0) := by decide +kernel
set_option maxRecDepth 100000 in
theorem fe_240_738 : am_fetch 240 738 = some (.invokevirtual 137, 3, 7, 127, 0) := by decide +kernel
set_option maxRecDepth 100000 in
theorem fe_240_741 : am_fetch 240 741 = some (.if_icmp .eq 1002, 3, 2, 1743, 0) := by decide +kernel
set_option maxRecDepth 100000 in
theorem fe_240_744 : am_fetch 240 744 = some (.iconst 0, 1, 0, 0, 0) := by decide +kernel
set_option maxRecDepth 100000 in
theorem fe_240_745 : am_fetch 240 745 = some (.ireturn, 1, 8, 0, 0) := by decide +kernel
set_option maxRecDepth 100000 in
theorem fe_240_746 : am_fetch 240 746 = some (.aload_n 1, 1, 1, 0, 0) := by decide +kernel
set_option maxRecDepth 100000 in
theorem fe_240_747 : am_fetch 240 747 = some (.aload_n 3, 1, 1, 0, 0) := by decide +kernel
set_option maxRecDepth 100000 in
theorem fe_240_748 : am_fetch 240 748 = some (.invokestatic 138, 3, 7, 137, 0) := by decide +kernel
set_option maxRecDepth 100000 in
theorem fe_240_751 : am_fetch 240 751 = some (.istore 5, 2, 1, 0, 0) := by decide +kernel
set_option maxRecDepth 100000 in
theorem fe_240_753 : am_fetch 240 753 = some (.aload_n 2, 1, 1, 0, 0) := by decide +kernel
set_option maxRecDepth 100000 in
theorem fe_240_754 : am_fetch 240 754 = some (.invokevirtual 141, 3, 7, 138, 0) := by decide +kernel
set_option maxRecDepth 100000 in
theorem fe_240_757 : am_fetch 240 757 = some (.istore 6, 2, 1, 0, 0) := by decide +kernel
set_option maxRecDepth 100000 in
theorem fe_240_759 : am_fetch 240 759 = some (.aload_n 2, 1, 1, 0, 0) := by decide +kernel
set_option maxRecDepth 100000 in
theorem fe_240_760 : am_fetch 240 760 = some (.invokevirtual 101, 3, 7, 35, 0) := by decide +kernel
set_option maxRecDepth 100000 in
theorem fe_240_763 : am_fetch 240 763 = some (.iload 5, 2, 1, 0, 0) := by decide +kernel
set_option maxRecDepth 100000 in
theorem fe_240_765 : am_fetch 240 765 = some (.if_icmp .eq 5, 3, 2, 770, 0) := by decide +kernel
set_option maxRecDepth 100000 in
theorem fe_240_768 : am_fetch 240 768 = some (.iconst 0, 1, 0, 0, 0) := by decide +kernel
set_option maxRecDepth 100000 in
theorem fe_240_769 : am_fetch 240 769 = some (.ireturn, 1, 8, 0, 0) := by decide +kernel
set_option maxRecDepth 100000 in
theorem fe_240_770 : am_fetch 240 770 = some (.iload 5, 2, 1, 0, 0) := by decide +kernel
set_option maxRecDepth 100000 in
theorem fe_240_772 : am_fetch 240 772 = some (.ifCond .ne 15, 3, 2, 787, 0) := by decide +kernel
set_option maxRecDepth 100000 in
theorem fe_240_775 : am_fetch 240 775 = some (.aload_n 3, 1, 1, 0, 0) := by decide +kernel
set_option maxRecDepth 100000 in
theorem fe_240_776 : am_fetch 240 776 = some (.iconst 0, 1, 0, 0, 0) := by decide +kernel
set_option maxRecDepth 100000 in
theorem fe_240_777 : am_fetch 240 777 = some (.laload, 1, 3, 0, 0) := by decide +kernel
set_option maxRecDepth 100000 in
theorem fe_240_778 : am_fetch 240 778 = some (.iload 6, 2, 1, 0, 0) := by decide +kernel
set_option maxRecDepth 100000 in
theorem fe_240_780 : am_fetch 240 780 = some (.i2l, 1, 0, 0, 0) := by decide +kernel
set_option maxRecDepth 100000 in
theorem fe_240_781 : am_fetch 240 781 = some (.lcmp, 1, 0, 0, 0) := by decide +kernel
set_option maxRecDepth 100000 in
theorem fe_240_782 : am_fetch 240 782 = some (.ifCond .eq 5, 3, 2, 787, 0) := by decide +kernel
set_option maxRecDepth 100000 in
theorem fe_240_785 : am_fetch 240 785 = some (.iconst 0, 1, 0, 0, 0) := by decide +kernel
set_option maxRecDepth 100000 in
theorem fe_240_786 : am_fetch 240 786 = some (.ireturn, 1, 8, 0, 0) := by decide +kernel
set_option maxRecDepth 100000 in
theorem fe_240_787 : am_fetch 240 787 = some (.goto 956, 3, 2, 1743, 0) := by decide +kernel
set_option maxRecDepth 100000 in
theorem fe_240_790 : am_fetch 240 790 = some (.aload_n 1, 1, 1, 0, 0) := by decide +kernel
set_option maxRecDepth 100000 in
theorem fe_240_791 : am_fetch 240 791 = some (.aload_n 3, 1, 1, 0, 0) := by decide +kernel
set_option maxRecDepth 100000 in
theorem fe_240_792 : am_fetch 240 792 = some (.invokestatic 142, 3, 7, 143, 0) := by decide +kernel
set_option maxRecDepth 100000 in
theorem fe_240_795 : am_fetch 240 795 = some (.istore 5, 2, 1, 0, 0) := by decide +kernel
set_option maxRecDepth 100000 in
theorem fe_240_797 : am_fetch 240 797 = some (.aload_n 2, 1, 1, 0, 0) := by decide +kernel
set_option maxRecDepth 100000 in
theorem fe_240_798 : am_fetch 240 798 = some (.invokevirtual 144, 3, 7, 144, 0) := by decide +kernel
set_option maxRecDepth 100000 in
theorem fe_240_801 : am_fetch 240 801 = some (.istore 6, 2, 1, 0, 0) := by decide +kernel
set_option maxRecDepth 100000 in
theorem fe_240_803 : am_fetch 240 803 = some (.aload_n 2, 1, 1, 0, 0) := by decide +kernel
set_option maxRecDepth 100000 in
theorem fe_240_804 : am_fetch 240 804 = some (.invokevirtual 101, 3, 7, 35, 0) := by decide +kernel
set_option maxRecDepth 100000 in
theorem fe_240_807 : am_fetch 240 807 = some (.iload 5, 2, 1, 0, 0) := by decide +kernel
set_option maxRecDepth 100000 in
theorem fe_240_809 : am_fetch 240 809 = some (.if_icmp .eq 5, 3, 2, 814, 0) := by decide +kernel
set_option maxRecDepth 100000 in
theorem fe_240_812 : am_fetch 240 812 = some (.iconst 0, 1, 0, 0, 0) := by decide +kernel
set_option maxRecDepth 100000 in
theorem fe_240_813 : am_fetch 240 813 = some (.ireturn, 1, 8, 0, 0) := by decide +kernel
set_option maxRecDepth 100000 in
theorem fe_240_814 : am_fetch 240 814 = some (.iload 5, 2, 1, 0, 0) := by decide +kernel
set_option maxRecDepth 100000 in
theorem fe_240_816 : am_fetch 240 816 = some (.ifCond .ne 15, 3, 2, 831, 0) := by decide +kernel
set_option maxRecDepth 100000 in
theorem fe_240_819 : am_fetch 240 819 = some (.aload_n 3, 1, 1, 0, 0) := by decide +kernel
set_option maxRecDepth 100000 in
theorem fe_240_820 : am_fetch 240 820 = some (.iconst 0, 1, 0, 0, 0) := by decide +kernel
set_option maxRecDepth 100000 in
theorem fe_240_821 : am_fetch 240 821 = some (.laload, 1, 3, 0, 0) := by decide +kernel
set_option maxRecDepth 100000 in
theorem fe_240_822 : am_fetch 240 822 = some (.iload 6, 2, 1, 0, 0) := by decide +kernel
set_option maxRecDepth 100000 in
theorem fe_240_824 : am_fetch 240 824 = some (.i2l, 1, 0, 0, 0) := by decide +kernel
set_option maxRecDepth 100000 in
theorem fe_240_825 : am_fetch 240 825 = some (.lcmp, 1, 0, 0, 0) := by decide +kernel
set_option maxRecDepth 100000 in
theorem fe_240_826 : am_fetch 240 826 = some (.ifCond .eq 5, 3, 2, 831, 0) := by decide +kernel
set_option maxRecDepth 100000 in
theorem fe_240_829 : am_fetch 240 829 = some (.iconst 0, 1, 0, 0, 0) := by decide +kernel
set_option maxRecDepth 100000 in
theorem fe_240_830 : am_fetch 240 830 = some (.ireturn, 1, 8, 0, 0) := by decide +kernel
set_option maxRecDepth 100000 in
theorem fe_240_831 : am_fetch 240 831 = some (.goto 912, 3, 2, 1743, 0) := by decide +kernel
set_option maxRecDepth 100000 in
theorem fe_240_834 : am_fetch 240 834 = some (.aload_n 1, 1, 1, 0, 0) := by decide +kernel
set_option maxRecDepth 100000 in
theorem fe_240_835 : am_fetch 240 835 = some (.aload_n 0, 1, 1, 0, 0) := by decide +kernel
set_option maxRecDepth 100000 in
theorem fe_240_836 : am_fetch 240 836 = some (.iload 4, 2, 1, 0, 0) := by decide +kernel
set_option maxRecDepth 100000 in
theorem fe_240_838 : am_fetch 240 838 = some (.iconst 1, 1, 0, 0, 0) := by decide +kernel
set_option maxRecDepth 100000 in
theorem fe_240_839 : am_fetch 240 839 = some (.iadd, 1, 0, 0, 0) := by decide +kernel
set_option maxRecDepth 100000 in
theorem fe_240_840 : am_fetch 240 840 = some (.iaload, 1, 3, 0, 0) := by decide +kernel
set_option maxRecDepth 100000 in
theorem fe_240_841 : am_fetch 240 841 = some (.aload_n 3, 1, 1, 0, 0) := by decide +kernel
set_option maxRecDepth 100000 in
theorem fe_240_842 : am_fetch 240 842 = some (.invokestatic 145, 3, 7, 147, 0) := by decide +kernel
set_option maxRecDepth 100000 in
theorem fe_240_845 : am_fetch 240 845 = some (.istore 5, 2, 1, 0, 0) := by decide +kernel
set_option maxRecDepth 100000 in
theorem fe_240_847 : am_fetch 240 847 = some (.aload_n 2, 1, 1, 0, 0) := by decide +kernel
set_option maxRecDepth 100000 in
theorem fe_240_848 : am_fetch 240 848 = some (.aload_n 0, 1, 1, 0, 0) := by decide +kernel
set_option maxRecDepth 100000 in
theorem fe_240_849 : am_fetch 240 849 = some (.iload 4, 2, 1, 0, 0) := by decide +kernel
set_option maxRecDepth 100000 in
theorem fe_240_851 : am_fetch 240 851 = some (.iconst 1, 1, 0, 0, 0) := by decide +kernel
set_option maxRecDepth 100000 in
theorem fe_240_852 : am_fetch 240 852 = some (.iadd, 1, 0, 0, 0) := by decide +kernel
set_option maxRecDepth 100000 in
theorem fe_240_853 : am_fetch 240 853 = some (.iaload, 1, 3, 0, 0) := by decide +kernel
set_option maxRecDepth 100000 in
theorem fe_240_854 : am_fetch 240 854 = some (.invokevirtual 147, 3, 7, 149, 0) := by decide +kernel
set_option maxRecDepth 100000 in
theorem fe_240_857 : am_fetch 240 857 = some (.istore 6, 2, 1, 0, 0) := by decide +kernel
set_option maxRecDepth 100000 in
theorem fe_240_859 : am_fetch 240 859 = some (.aload_n 2, 1, 1, 0, 0) := by decide +kernel
set_option maxRecDepth 100000 in
theorem fe_240_860 : am_fetch 240 860 = some (.invokevirtual 101, 3, 7, 35, 0) := by decide +kernel
set_option maxRecDepth 100000 in
theorem fe_240_863 : am_fetch 240 863 = some (.iload 5, 2, 1, 0, 0) := by decide +kernel
set_option maxRecDepth 100000 in
theorem fe_240_865 : am_fetch 240 865 = some (.if_icmp .eq 5, 3, 2, 870, 0) := by decide +kernel
set_option maxRecDepth 100000 in
theorem fe_240_868 : am_fetch 240 868 = some (.iconst 0, 1, 0, 0, 0) := by decide +kernel
set_option maxRecDepth 100000 in
theorem fe_240_869 : am_fetch 240 869 = some (.ireturn, 1, 8, 0, 0) := by decide +kernel
set_option maxRecDepth 100000 in
theorem fe_240_870 : am_fetch 240 870 = some (.iload 5, 2, 1, 0, 0) := by decide +kernel
set_option maxRecDepth 100000 in
theorem fe_240_872 : am_fetch 240 872 = some (.ifCond .ne 15, 3, 2, 887, 0) := by decide +kernel
set_option maxRecDepth 100000 in
theorem fe_240_875 : am_fetch 240 875 = some (.aload_n 3, 1, 1, 0, 0) := by decide +kernel
set_option maxRecDepth 100000 in
theorem fe_240_876 : am_fetch 240 876 = some (.iconst 0, 1, 0, 0, 0) := by decide +kernel
set_option maxRecDepth 100000 in
theorem fe_240_877 : am_fetch 240 877 = some (.laload, 1, 3, 0, 0) := by decide +kernel
set_option maxRecDepth 100000 in
theorem fe_240_878 : am_fetch 240 878 = some (.iload 6, 2, 1, 0, 0) := by decide +kernel
set_option maxRecDepth 100000 in
theorem fe_240_880 : am_fetch 240 880 = some (.i2l, 1, 0, 0, 0) := by decide +kernel
set_option maxRecDepth 100000 in
theorem fe_240_881 : am_fetch 240 881 = some (.lcmp, 1, 0, 0, 0) := by decide +kernel
set_option maxRecDepth 100000 in
theorem fe_240_882 : am_fetch 240 882 = some (.ifCond .eq 5, 3, 2, 887, 0) := by decide +kernel
set_option maxRecDepth 100000 in
theorem fe_240_885 : am_fetch 240 885 = some (.iconst 0, 1, 0, 0, 0) := by decide +kernel
set_option maxRecDepth 100000 in
theorem fe_240_886 : am_fetch 240 886 = some (.ireturn, 1, 8, 0, 0) := by decide +kernel
set_option maxRecDepth 100000 in
theorem fe_240_887 : am_fetch 240 887 = some (.goto 856, 3, 2, 1743, 0) := by decide +kernel
set_option maxRecDepth 100000 in
theorem fe_240_890 : am_fetch 240 890 = some (.aload_n 1, 1, 1, 0, 0) := by decide +kernel
set_option maxRecDepth 100000 in
theorem fe_240_891 : am_fetch 240 891 = some (.aload_n 0, 1, 1, 0, 0) := by decide +kernel
set_option maxRecDepth 100000 in
theorem fe_240_892 : am_fetch 240 892 = some (.iload 4, 2, 1, 0, 0) := by decide +kernel
set_option maxRecDepth 100000 in
theorem fe_240_894 : am_fetch 240 894 = some (.iconst 1, 1, 0, 0, 0) := by decide +kernel
set_option maxRecDepth 100000 in
theorem fe_240_895 : am_fetch 240 895 = some (.iadd, 1, 0, 0, 0) := by decide +kernel
set_option maxRecDepth 100000 in
theorem fe_240_896 : am_fetch 240 896 = some (.iaload, 1, 3, 0, 0) := by decide +kernel
set_option maxRecDepth 100000 in
theorem fe_240_897 : am_fetch 240 897 = some (.aload_n 3, 1, 1, 0, 0) := by decide +kernel
set_option maxRecDepth 100000 in
theorem fe_240_898 : am_fetch 240 898 = some (.invokestatic 148, 3, 7, 152, 0) := by decide +kernel
set_option maxRecDepth 100000 in
theorem fe_240_901 : am_fetch 240 901 = some (.istore 5, 2, 1, 0, 0) := by decide +kernel
set_option maxRecDepth 100000 in
theorem fe_240_903 : am_fetch 240 903 = some (.aload_n 2, 1, 1, 0, 0) := by decide +kernel
set_option maxRecDepth 100000 in
theorem fe_240_904 : am_fetch 240 904 = some (.aload_n 0, 1, 1, 0, 0) := by decide +kernel
set_option maxRecDepth 100000 in
theorem fe_240_905 : am_fetch 240 905 = some (.iload 4, 2, 1, 0, 0) := by decide +kernel
set_option maxRecDepth 100000 in
theorem fe_240_907 : am_fetch 240 907 = some (.iconst 1, 1, 0, 0, 0) := by decide +kernel
set_option maxRecDepth 100000 in
theorem fe_240_908 : am_fetch 240 908 = some (.iadd, 1, 0, 0, 0) := by decide +kernel
set_option maxRecDepth 100000 in
theorem fe_240_909 : am_fetch 240 909 = some (.iaload, 1, 3, 0, 0) := by decide +kernel
set_option maxRecDepth 100000 in
theorem fe_240_910 : am_fetch 240 910 = some (.invokevirtual 150, 3, 7, 153, 0) := by decide +kernel
set_option maxRecDepth 100000 in
theorem fe_240_913 : am_fetch 240 913 = some (.istore 6, 2, 1, 0, 0) := by decide +kernel
set_option maxRecDepth 100000 in
theorem fe_240_915 : am_fetch 240 915 = some (.aload_n 2, 1, 1, 0, 0) := by decide +kernel
set_option maxRecDepth 100000 in
theorem fe_240_916 : am_fetch 240 916 = some (.invokevirtual 101, 3, 7, 35, 0) := by decide +kernel
set_option maxRecDepth 100000 in
theorem fe_240_919 : am_fetch 240 919 = some (.iload 5, 2, 1, 0, 0) := by decide +kernel
set_option maxRecDepth 100000 in
theorem fe_240_921 : am_fetch 240 921 = some (.if_icmp .eq 5, 3, 2, 926, 0) := by decide +kernel
set_option maxRecDepth 100000 in
theorem fe_240_924 : am_fetch 240 924 = some (.iconst 0, 1, 0, 0, 0) := by decide +kernel
set_option maxRecDepth 100000 in
theorem fe_240_925 : am_fetch 240 925 = some (.ireturn, 1, 8, 0, 0) := by decide +kernel
set_option maxRecDepth 100000 in
theorem fe_240_926 : am_fetch 240 926 = some (.iload 5, 2, 1, 0, 0) := by decide +kernel
set_option maxRecDepth 100000 in
theorem fe_240_928 : am_fetch 240 928 = some (.ifCond .ne 15, 3, 2, 943, 0) := by decide +kernel
set_option maxRecDepth 100000 in
theorem fe_240_931 : am_fetch 240 931 = some (.aload_n 3, 1, 1, 0, 0) := by decide +kernel
set_option maxRecDepth 100000 in
theorem fe_240_932 : am_fetch 240 932 = some (.iconst 0, 1, 0, 0, 0) := by decide +kernel
set_option maxRecDepth 100000 in
theorem fe_240_933 : am_fetch 240 933 = some (.laload, 1, 3, 0, 0) := by decide +kernel
set_option maxRecDepth 100000 in
theorem fe_240_934 : am_fetch 240 934 = some (.iload 6, 2, 1, 0, 0) := by decide +kernel
set_option maxRecDepth 100000 in
theorem fe_240_936 : am_fetch 240 936 = some (.i2l, 1, 0, 0, 0) := by decide +kernel
set_option maxRecDepth 100000 in
theorem fe_240_937 : am_fetch 240 937 = some (.lcmp, 1, 0, 0, 0) := by decide +kernel
set_option maxRecDepth 100000 in
theorem fe_240_938 : am_fetch 240 938 = some (.ifCond .eq 5, 3, 2, 943, 0) := by decide +kernel
set_option maxRecDepth 100000 in
theorem fe_240_941 : am_fetch 240 941 = some (.iconst 0, 1, 0, 0, 0) := by decide +kernel
set_option maxRecDepth 100000 in
theorem fe_240_942 : am_fetch 240 942 = some (.ireturn, 1, 8, 0, 0) := by decide +kernel
set_option maxRecDepth 100000 in
theorem fe_240_943 : am_fetch 240 943 = some (.goto 800, 3, 2, 1743, 0) := by decide +kernel
set_option maxRecDepth 100000 in
theorem fe_240_946 : am_fetch 240 946 = some (.aload_n 1, 1, 1, 0, 0) := by decide +kernel
set_option maxRecDepth 100000 in
theorem fe_240_947 : am_fetch 240 947 = some (.aload_n 0, 1, 1, 0, 0) := by decide +kernel
set_option maxRecDepth 100000 in
theorem fe_240_948 : am_fetch 240 948 = some (.iload 4, 2, 1, 0, 0) := by decide +kernel
set_option maxRecDepth 100000 in
theorem fe_240_950 : am_fetch 240 950 = some (.iconst 1, 1, 0, 0, 0) := by decide +kernel
set_option maxRecDepth 100000 in
theorem fe_240_951 : am_fetch 240 951 = some (.iadd, 1, 0, 0, 0) := by decide +kernel
set_option maxRecDepth 100000 in
theorem fe_240_952 : am_fetch 240 952 = some (.iaload, 1, 3, 0, 0) := by decide +kernel
set_option maxRecDepth 100000 in
theorem fe_240_953 : am_fetch 240 953 = some (.aload_n 0, 1, 1, 0, 0) := by decide +kernel
set_option maxRecDepth 100000 in
theorem fe_240_954 : am_fetch 240 954 = some (.iload 4, 2, 1, 0, 0) := by decide +kernel
set_option maxRecDepth 100000 in
theorem fe_240_956 : am_fetch 240 956 = some (.iconst 2, 1, 0, 0, 0) := by decide +kernel
set_option maxRecDepth 100000 in
theorem fe_240_957 : am_fetch 240 957 = some (.iadd, 1, 0, 0, 0) := by decide +kernel
set_option maxRecDepth 100000 in
theorem fe_240_958 : am_fetch 240 958 = some (.iaload, 1, 3, 0, 0) := by decide +kernel
set_option maxRecDepth 100000 in
theorem fe_240_959 : am_fetch 240 959 = some (.aload_n 3, 1, 1, 0, 0) := by decide +kernel
set_option maxRecDepth 100000 in
theorem fe_240_960 : am_fetch 240 960 = some (.invokestatic 151, 3, 7, 157, 0) := by decide +kernel
set_option maxRecDepth 100000 in
theorem fe_240_963 : am_fetch 240 963 = some (.istore 5, 2, 1, 0, 0) := by decide +kernel
set_option maxRecDepth 100000 in
theorem fe_240_965 : am_fetch 240 965 = some (.aload_n 2, 1, 1, 0, 0) := by decide +kernel
set_option maxRecDepth 100000 in
theorem fe_240_966 : am_fetch 240 966 = some (.aload_n 0, 1, 1, 0, 0) := by decide +kernel
set_option maxRecDepth 100000 in
theorem fe_240_967 : am_fetch 240 967 = some (.iload 4, 2, 1, 0, 0) := by decide +kernel
set_option maxRecDepth 100000 in
theorem fe_240_969 : am_fetch 240 969 = some (.iconst 1, 1, 0, 0, 0) := by decide +kernel
set_option maxRecDepth 100000 in
theorem fe_240_970 : am_fetch 240 970 = some (.iadd, 1, 0, 0, 0) := by decide +kernel
set_option maxRecDepth 100000 in
theorem fe_240_971 : am_fetch 240 971 = some (.iaload, 1, 3, 0, 0) := by decide +kernel
set_option maxRecDepth 100000 in
theorem fe_240_972 : am_fetch 240 972 = some (.aload_n 0, 1, 1, 0, 0) := by decide +kernel
set_option maxRecDepth 100000 in
theorem fe_240_973 : am_fetch 240 973 = some (.iload 4, 2, 1, 0, 0) := by decide +kernel
set_option maxRecDepth 100000 in
theorem fe_240_975 : am_fetch 240 975 = some (.iconst 2, 1, 0, 0, 0) := by decide +kernel
set_option maxRecDepth 100000 in
theorem fe_240_976 : am_fetch 240 976 = some (.iadd, 1, 0, 0, 0) := by decide +kernel
set_option maxRecDepth 100000 in
theorem fe_240_977 : am_fetch 240 977 = some (.iaload, 1, 3, 0, 0) := by decide +kernel
set_option maxRecDepth 100000 in
theorem fe_240_978 : am_fetch 240 978 = some (.invokevirtual 153, 3, 7, 160, 0) := by decide +kernel
set_option maxRecDepth 100000 in
theorem fe_240_981 : am_fetch 240 981 = some (.istore 6, 2, 1, 0, 0) := by decide +kernel
set_option maxRecDepth 100000 in
theorem fe_240_983 : am_fetch 240 983 = some (.aload_n 2, 1, 1, 0, 0) := by decide +kernel
set_option maxRecDepth 100000 in
theorem fe_240_984 : am_fetch 240 984 = some (.invokevirtual 101, 3, 7, 35, 0) := by decide +kernel
set_option maxRecDepth 100000 in
theorem fe_240_987 : am_fetch 240 987 = some (.iload 5, 2, 1, 0, 0) := by decide +kernel
set_option maxRecDepth 100000 in
theorem fe_240_989 : am_fetch 240 989 = some (.if_icmp .eq 5, 3, 2, 994, 0) := by decide +kernel
set_option maxRecDepth 100000 in
theorem fe_240_992 : am_fetch 240 992 = some (.iconst 0, 1, 0, 0, 0) := by decide +kernel
set_option maxRecDepth 100000 in
theorem fe_240_993 : am_fetch 240 993 = some (.ireturn, 1, 8, 0, 0) := by decide +kernel
set_option maxRecDepth 100000 in
theorem fe_240_994 : am_fetch 240 994 = some (.iload 5, 2, 1, 0, 0) := by decide +kernel
set_option maxRecDepth 100000 in
theorem fe_240_996 : am_fetch 240 996 = some (.ifCond .ne 15, 3, 2, 1011, 0) := by decide +kernel
set_option maxRecDepth 100000 in
theorem fe_240_999 : am_fetch 240 999 = some (.aload_n 3, 1, 1, 0, 0) := by decide +kernel
set_option maxRecDepth 100000 in
theorem fe_240_1000 : am_fetch 240 1000 = some (.iconst 0, 1, 0, 0, 0) := by decide +kernel
set_option maxRecDepth 100000 in
theorem fe_240_1001 : am_fetch 240 1001 = some (.laload, 1, 3, 0, 0) := by decide +kernel
set_option maxRecDepth 100000 in
theorem fe_240_1002 : am_fetch 240 1002 = some (.iload 6, 2, 1, 0, 0) := by decide +kernel
set_option maxRecDepth 100000 in
theorem fe_240_1004 : am_fetch 240 1004 = some (.i2l, 1, 0, 0, 0) := by decide +kernel
set_option maxRecDepth 100000 in
theorem fe_240_1005 : am_fetch 240 1005 = some (.lcmp, 1, 0, 0, 0) := by decide +kernel
set_option maxRecDepth 100000 in
theorem fe_240_1006 : am_fetch 240 1006 = some (.ifCond .eq 5, 3, 2, 1011, 0) := by decide +kernel
set_option maxRecDepth 100000 in
theorem fe_240_1009 : am_fetch 240 1009 = some (.iconst 0, 1, 0, 0, 0) := by decide +kernel
set_option maxRecDepth 100000 in
theorem fe_240_1010 : am_fetch 240 1010 = some (.ireturn, 1, 8, 0, 0) := by decide +kernel
set_option maxRecDepth 100000 in
theorem fe_240_1011 : am_fetch 240 1011 = some (.goto 732, 3, 2, 1743, 0) := by decide +kernel
set_option maxRecDepth 100000 in
theorem fe_240_1014 : am_fetch 240 1014 = some (.aload_n 1, 1, 1, 0, 0) := by decide +kernel
set_option maxRecDepth 100000 in
theorem fe_240_1015 : am_fetch 240 1015 = some (.aload_n 0, 1, 1, 0, 0) := by decide +kernel
set_option maxRecDepth 100000 in
theorem fe_240_1016 : am_fetch 240 1016 = some (.iload 4, 2, 1, 0, 0) := by decide +kernel
set_option maxRecDepth 100000 in
theorem fe_240_1018 : am_fetch 240 1018 = some (.iconst 1, 1, 0, 0, 0) := by decide +kernel
set_option maxRecDepth 100000 in
theorem fe_240_1019 : am_fetch 240 1019 = some (.iadd, 1, 0, 0, 0) := by decide +kernel
set_option maxRecDepth 100000 in
theorem fe_240_1020 : am_fetch 240 1020 = some (.iaload, 1, 3, 0, 0) := by decide +kernel
set_option maxRecDepth 100000 in
theorem fe_240_1021 : am_fetch 240 1021 = some (.aload_n 0, 1, 1, 0, 0) := by decide +kernel
set_option maxRecDepth 100000 in
theorem fe_240_1022 : am_fetch 240 1022 = some (.iload 4, 2, 1, 0, 0) := by decide +kernel
set_option maxRecDepth 100000 in
theorem fe_240_1024 : am_fetch 240 1024 = some (.iconst 2, 1, 0, 0, 0) := by decide +kernel
set_option maxRecDepth 100000 in
theorem fe_240_1025 : am_fetch 240 1025 = some (.iadd, 1, 0, 0, 0) := by decide +kernel
set_option maxRecDepth 100000 in
theorem fe_240_1026 : am_fetch 240 1026 = some (.iaload, 1, 3, 0, 0) := by decide +kernel
set_option maxRecDepth 100000 in
theorem fe_240_1027 : am_fetch 240 1027 = some (.aload_n 3, 1, 1, 0, 0) := by decide +kernel
set_option maxRecDepth 100000 in
theorem fe_240_1028 : am_fetch 240 1028 = some (.invokestatic 154, 3, 7, 164, 0) := by decide +kernel
set_option maxRecDepth 100000 in
theorem fe_240_1031 : am_fetch 240 1031 = some (.istore 5, 2, 1, 0, 0) := by decide +kernel
set_option maxRecDepth 100000 in
theorem fe_240_1033 : am_fetch 240 1033 = some (.aload_n 2, 1, 1, 0, 0) := by decide +kernel
set_option maxRecDepth 100000 in
theorem fe_240_1034 : am_fetch 240 1034 = some (.aload_n 0, 1, 1, 0, 0) := by decide +kernel
set_option maxRecDepth 100000 in
theorem fe_240_1035 : am_fetch 240 1035 = some (.iload 4, 2, 1, 0, 0) := by decide +kernel
set_option maxRecDepth 100000 in
theorem fe_240_1037 : am_fetch 240 1037 = some (.iconst 1, 1, 0, 0, 0) := by decide +kernel
set_option maxRecDepth 100000 in
theorem fe_240_1038 : am_fetch 240 1038 = some (.iadd, 1, 0, 0, 0) := by decide +kernel
set_option maxRecDepth 100000 in
theorem fe_240_1039 : am_fetch 240 1039 = some (.iaload, 1, 3, 0, 0) := by decide +kernel
set_option maxRecDepth 100000 in
theorem fe_240_1040 : am_fetch 240 1040 = some (.aload_n 0, 1, 1, 0, 0) := by decide +kernel
set_option maxRecDepth 100000 in
theorem fe_240_1041 : am_fetch 240 1041 = some (.iload 4, 2, 1, 0, 0) := by decide +kernel
set_option maxRecDepth 100000 in
theorem fe_240_1043 : am_fetch 240 1043 = some (.iconst 2, 1, 0, 0, 0) := by decide +kernel
set_option maxRecDepth 100000 in
theorem fe_240_1044 : am_fetch 240 1044 = some (.iadd, 1, 0, 0, 0) := by decide +kernel
set_option maxRecDepth 100000 in
theorem fe_240_1045 : am_fetch 240 1045 = some (.iaload, 1, 3, 0, 0) := by decide +kernel
set_option maxRecDepth 100000 in
theorem fe_240_1046 : am_fetch 240 1046 = some (.invokevirtual 156, 3, 7, 166, 0) := by decide +kernel
set_option maxRecDepth 100000 in
theorem fe_240_1049 : am_fetch 240 1049 = some (.istore 6, 2, 1, 0, 0) := by decide +kernel
set_option maxRecDepth 100000 in
theorem fe_240_1051 : am_fetch 240 1051 = some (.aload_n 2, 1, 1, 0, 0) := by decide +kernel
set_option maxRecDepth 100000 in
theorem fe_240_1052 : am_fetch 240 1052 = some (.invokevirtual 101, 3, 7, 35, 0) := by decide +kernel
set_option maxRecDepth 100000 in
theorem fe_240_1055 : am_fetch 240 1055 = some (.iload 5, 2, 1, 0, 0) := by decide +kernel
set_option maxRecDepth 100000 in
theorem fe_240_1057 : am_fetch 240 1057 = some (.if_icmp .eq 5, 3, 2, 1062, 0) := by decide +kernel
set_option maxRecDepth 100000 in
theorem fe_240_1060 : am_fetch 240 1060 = some (.iconst 0, 1, 0, 0, 0) := by decide +kernel
set_option maxRecDepth 100000 in
theorem fe_240_1061 : am_fetch 240 1061 = some (.ireturn, 1, 8, 0, 0) := by decide +kernel
set_option maxRecDepth 100000 in
theorem fe_240_1062 : am_fetch 240 1062 = some (.iload 5, 2, 1, 0, 0) := by decide +kernel
set_option maxRecDepth 100000 in
theorem fe_240_1064 : am_fetch 240 1064 = some (.ifCond .ne 15, 3, 2, 1079, 0) := by decide +kernel
set_option maxRecDepth 100000 in
theorem fe_240_1067 : am_fetch 240 1067 = some (.aload_n 3, 1, 1, 0, 0) := by decide +kernel
set_option maxRecDepth 100000 in
theorem fe_240_1068 : am_fetch 240 1068 = some (.iconst 0, 1, 0, 0, 0) := by decide +kernel
set_option maxRecDepth 100000 in
theorem fe_240_1069 : am_fetch 240 1069 = some (.laload, 1, 3, 0, 0) := by decide +kernel
set_option maxRecDepth 100000 in
theorem fe_240_1070 : am_fetch 240 1070 = some (.iload 6, 2, 1, 0, 0) := by decide +kernel
set_option maxRecDepth 100000 in
theorem fe_240_1072 : am_fetch 240 1072 = some (.i2l, 1, 0, 0, 0) := by decide +kernel
set_option maxRecDepth 100000 in
theorem fe_240_1073 : am_fetch 240 1073 = some (.lcmp, 1, 0, 0, 0) := by decide +kernel
set_option maxRecDepth 100000 in
theorem fe_240_1074 : am_fetch 240 1074 = some (.ifCond .eq 5, 3, 2, 1079, 0) := by decide +kernel
set_option maxRecDepth 100000 in
theorem fe_240_1077 : am_fetch 240 1077 = some (.iconst 0, 1, 0, 0, 0) := by decide +kernel
set_option maxRecDepth 100000 in
theorem fe_240_1078 : am_fetch 240 1078 = some (.ireturn, 1, 8, 0, 0) := by decide +kernel
set_option maxRecDepth 100000 in
theorem fe_240_1079 : am_fetch 240 1079 = some (.goto 664, 3, 2, 1743, 0) := by decide +kernel
set_option maxRecDepth 100000 in
theorem fe_240_1082 : am_fetch 240 1082 = some (.aload_n 1, 1, 1, 0, 0) := by decide +kernel
set_option maxRecDepth 100000 in
theorem fe_240_1083 : am_fetch 240 1083 = some (.aload_n 0, 1, 1, 0, 0) := by decide +kernel
set_option maxRecDepth 100000 in
theorem fe_240_1084 : am_fetch 240 1084 = some (.iload 4, 2, 1, 0, 0) := by decide +kernel
set_option maxRecDepth 100000 in
theorem fe_240_1086 : am_fetch 240 1086 = some (.iconst 1, 1, 0, 0, 0) := by decide +kernel
set_option maxRecDepth 100000 in
theorem fe_240_1087 : am_fetch 240 1087 = some (.iadd, 1, 0, 0, 0) := by decide +kernel
set_option maxRecDepth 100000 in
theorem fe_240_1088 : am_fetch 240 1088 = some (.iaload, 1, 3, 0, 0) := by decide +kernel
set_option maxRecDepth 100000 in
theorem fe_240_1089 : am_fetch 240 1089 = some (.aload_n 0, 1, 1, 0, 0) := by decide +kernel
set_option maxRecDepth 100000 in
theorem fe_240_1090 : am_fetch 240 1090 = some (.iload 4, 2, 1, 0, 0) := by decide +kernel
set_option maxRecDepth 100000 in
theorem fe_240_1092 : am_fetch 240 1092 = some (.iconst 2, 1, 0, 0, 0) := by decide +kernel
set_option maxRecDepth 100000 in
theorem fe_240_1093 : am_fetch 240 1093 = some (.iadd, 1, 0, 0, 0) := by decide +kernel
set_option maxRecDepth 100000 in
theorem fe_240_1094 : am_fetch 240 1094 = some (.iaload, 1, 3, 0, 0) := by decide +kernel
set_option maxRecDepth 100000 in
theorem fe_240_1095 : am_fetch 240 1095 = some (.aload_n 3, 1, 1, 0, 0) := by decide +kernel
set_option maxRecDepth 100000 in
theorem fe_240_1096 : am_fetch 240 1096 = some (.invokestatic 157, 3, 7, 169, 0) := by decide +kernel
set_option maxRecDepth 100000 in
theorem fe_240_1099 : am_fetch 240 1099 = some (.istore 5, 2, 1, 0, 0) := by decide +kernel
set_option maxRecDepth 100000 in
theorem fe_240_1101 : am_fetch 240 1101 = some (.aload_n 2, 1, 1, 0, 0) := by decide +kernel
set_option maxRecDepth 100000 in
theorem fe_240_1102 : am_fetch 240 1102 = some (.aload_n 0, 1, 1, 0, 0) := by decide +kernel
set_option maxRecDepth 100000 in
theorem fe_240_1103 : am_fetch 240 1103 = some (.iload 4, 2, 1, 0, 0) := by decide +kernel
set_option maxRecDepth 100000 in
theorem fe_240_1105 : am_fetch 240 1105 = some (.iconst 1, 1, 0, 0, 0) := by decide +kernel
set_option maxRecDepth 100000 in
theorem fe_240_1106 : am_fetch 240 1106 = some (.iadd, 1, 0, 0, 0) := by decide +kernel
set_option maxRecDepth 100000 in
theorem fe_240_1107 : am_fetch 240 1107 = some (.iaload, 1, 3, 0, 0) := by decide +kernel
set_option maxRecDepth 100000 in
theorem fe_240_1108 : am_fetch 240 1108 = some (.aload_n 0, 1, 1, 0, 0) := by decide +kernel
set_option maxRecDepth 100000 in
theorem fe_240_1109 : am_fetch 240 1109 = some (.iload 4, 2, 1, 0, 0) := by decide +kernel
set_option maxRecDepth 100000 in
theorem fe_240_1111 : am_fetch 240 1111 = some (.iconst 2, 1, 0, 0, 0) := by decide +kernel
set_option maxRecDepth 100000 in
theorem fe_240_1112 : am_fetch 240 1112 = some (.iadd, 1, 0, 0, 0) := by decide +kernel
set_option maxRecDepth 100000 in
theorem fe_240_1113 : am_fetch 240 1113 = some (.iaload, 1, 3, 0, 0) := by decide +kernel
set_option maxRecDepth 100000 in
theorem fe_240_1114 : am_fetch 240 1114 = some (.invokevirtual 159, 3, 7, 171, 0) := by decide +kernel
set_option maxRecDepth 100000 in
theorem fe_240_1117 : am_fetch 240 1117 = some (.istore 6, 2, 1, 0, 0) := by decide +kernel
set_option maxRecDepth 100000 in
theorem fe_240_1119 : am_fetch 240 1119 = some (.aload_n 2, 1, 1, 0, 0) := by decide +kernel
set_option maxRecDepth 100000 in
theorem fe_240_1120 : am_fetch 240 1120 = some (.invokevirtual 101, 3, 7, 35, 0) := by decide +kernel
set_option maxRecDepth 100000 in
theorem fe_240_1123 : am_fetch 240 1123 = some (.iload 5, 2, 1, 0, 0) := by decide +kernel
set_option maxRecDepth 100000 in
theorem fe_240_1125 : am_fetch 240 1125 = some (.if_icmp .eq 5, 3, 2, 1130, 0) := by decide +kernel
set_option maxRecDepth 100000 in
theorem fe_240_1128 : am_fetch 240 1128 = some (.iconst 0, 1, 0, 0, 0) := by decide +kernel
set_option maxRecDepth 100000 in
theorem fe_240_1129 : am_fetch 240 1129 = some (.ireturn, 1, 8, 0, 0) := by decide +kernel
set_option maxRecDepth 100000 in
theorem fe_240_1130 : am_fetch 240 1130 = some (.iload 5, 2, 1, 0, 0) := by decide +kernel
set_option maxRecDepth 100000 in
theorem fe_240_1132 : am_fetch 240 1132 = some (.ifCond .ne 15, 3, 2, 1147, 0) := by decide +kernel
set_option maxRecDepth 100000 in
theorem fe_240_1135 : am_fetch 240 1135 = some (.aload_n 3, 1, 1, 0, 0) := by decide +kernel
set_option maxRecDepth 100000 in
theorem fe_240_1136 : am_fetch 240 1136 = some (.iconst 0, 1, 0, 0, 0) := by decide +kernel
set_option maxRecDepth 100000 in
theorem fe_240_1137 : am_fetch 240 1137 = some (.laload, 1, 3, 0, 0) := by decide +kernel
set_option maxRecDepth 100000 in
theorem fe_240_1138 : am_fetch 240 1138 = some (.iload 6, 2, 1, 0, 0) := by decide +kernel
set_option maxRecDepth 100000 in
theorem fe_240_1140 : am_fetch 240 1140 = some (.i2l, 1, 0, 0, 0) := by decide +kernel
set_option maxRecDepth 100000 in
theorem fe_240_1141 : am_fetch 240 1141 = some (.lcmp, 1, 0, 0, 0) := by decide +kernel
set_option maxRecDepth 100000 in
theorem fe_240_1142 : am_fetch 240 1142 = some (.ifCond .eq 5, 3, 2, 1147, 0) := by decide +kernel
set_option maxRecDepth 100000 in
theorem fe_240_1145 : am_fetch 240 1145 = some (.iconst 0, 1, 0, 0, 0) := by decide +kernel
set_option maxRecDepth 100000 in
theorem fe_240_1146 : am_fetch 240 1146 = some (.ireturn, 1, 8, 0, 0) := by decide +kernel
set_option maxRecDepth 100000 in
theorem fe_240_1147 : am_fetch 240 1147 = some (.goto 596, 3, 2, 1743, 0) := by decide +kernel
set_option maxRecDepth 100000 in
theorem fe_240_1150 : am_fetch 240 1150 = some (.aload_n 1, 1, 1, 0, 0) := by decide +kernel
set_option maxRecDepth 100000 in
theorem fe_240_1151 : am_fetch 240 1151 = some (.aload_n 0, 1, 1, 0, 0) := by decide +kernel
set_option maxRecDepth 100000 in
theorem fe_240_1152 : am_fetch 240 1152 = some (.iload 4, 2, 1, 0, 0) := by decide +kernel
set_option maxRecDepth 100000 in
theorem fe_240_1154 : am_fetch 240 1154 = some (.iconst 1, 1, 0, 0, 0) := by decide +kernel
set_option maxRecDepth 100000 in
theorem fe_240_1155 : am_fetch 240 1155 = some (.iadd, 1, 0, 0, 0) := by decide +kernel
set_option maxRecDepth 100000 in
theorem fe_240_1156 : am_fetch 240 1156 = some (.iaload, 1, 3, 0, 0) := by decide +kernel
set_option maxRecDepth 100000 in
theorem fe_240_1157 : am_fetch 240 1157 = some (.aload_n 3, 1, 1, 0, 0) := by decide +kernel
set_option maxRecDepth 100000 in
theorem fe_240_1158 : am_fetch 240 1158 = some (.invokestatic 160, 3, 7, 173, 0) := by decide +kernel
set_option maxRecDepth 100000 in
theorem fe_240_1161 : am_fetch 240 1161 = some (.istore 5, 2, 1, 0, 0) := by decide +kernel
set_option maxRecDepth 100000 in
theorem fe_240_1163 : am_fetch 240 1163 = some (.aload_n 2, 1, 1, 0, 0) := by decide +kernel
set_option maxRecDepth 100000 in
theorem fe_240_1164 : am_fetch 240 1164 = some (.aload_n 0, 1, 1, 0, 0) := by decide +kernel
set_option maxRecDepth 100000 in
theorem fe_240_1165 : am_fetch 240 1165 = some (.iload 4, 2, 1, 0, 0) := by decide +kernel
set_option maxRecDepth 100000 in
theorem fe_240_1167 : am_fetch 240 1167 = some (.iconst 1, 1, 0, 0, 0) := by decide +kernel
set_option maxRecDepth 100000 in
theorem fe_240_1168 : am_fetch 240 1168 = some (.iadd, 1, 0, 0, 0) := by decide +kernel
set_option maxRecDepth 100000 in
theorem fe_240_1169 : am_fetch 240 1169 = some (.iaload, 1, 3, 0, 0) := by decide +kernel
set_option maxRecDepth 100000 in
theorem fe_240_1170 : am_fetch 240 1170 = some (.invokevirtual 162, 3, 7, 174, 0) := by decide +kernel
set_option maxRecDepth 100000 in
theorem fe_240_1173 : am_fetch 240 1173 = some (.istore 6, 2, 1, 0, 0) := by decide +kernel
set_option maxRecDepth 100000 in
theorem fe_240_1175 : am_fetch 240 1175 = some (.aload_n 2, 1, 1, 0, 0) := by decide +kernel
set_option maxRecDepth 100000 in
theorem fe_240_1176 : am_fetch 240 1176 = some (.invokevirtual 101, 3, 7, 35, 0) := by decide +kernel
set_option maxRecDepth 100000 in
theorem fe_240_1179 : am_fetch 240 1179 = some (.iload 5, 2, 1, 0, 0) := by decide +kernel
set_option maxRecDepth 100000 in
theorem fe_240_1181 : am_fetch 240 1181 = some (.if_icmp .eq 5, 3, 2, 1186, 0) := by decide +kernel
set_option maxRecDepth 100000 in
theorem fe_240_1184 : am_fetch 240 1184 = some (.iconst 0, 1, 0, 0, 0) := by decide +kernel
set_option maxRecDepth 100000 in
theorem fe_240_1185 : am_fetch 240 1185 = some (.ireturn, 1, 8, 0, 0) := by decide +kernel
set_option maxRecDepth 100000 in
theorem fe_240_1186 : am_fetch 240 1186 = some (.iload 5, 2, 1, 0, 0) := by decide +kernel
set_option maxRecDepth 100000 in
theorem fe_240_1188 : am_fetch 240 1188 = some (.ifCond .ne 15, 3, 2, 1203, 0) := by decide +kernel
set_option maxRecDepth 100000 in
theorem fe_240_1191 : am_fetch 240 1191 = some (.aload_n 3, 1, 1, 0, 0) := by decide +kernel
set_option maxRecDepth 100000 in
theorem fe_240_1192 : am_fetch 240 1192 = some (.iconst 0, 1, 0, 0, 0) := by decide +kernel
set_option maxRecDepth 100000 in
theorem fe_240_1193 : am_fetch 240 1193 = some (.laload, 1, 3, 0, 0) := by decide +kernel
set_option maxRecDepth 100000 in
theorem fe_240_1194 : am_fetch 240 1194 = some (.iload 6, 2, 1, 0, 0) := by decide +kernel
set_option maxRecDepth 100000 in
theorem fe_240_1196 : am_fetch 240 1196 = some (.i2l, 1, 0, 0, 0) := by decide +kernel
set_option maxRecDepth 100000 in
theorem fe_240_1197 : am_fetch 240 1197 = some (.lcmp, 1, 0, 0, 0) := by decide +kernel
set_option maxRecDepth 100000 in
theorem fe_240_1198 : am_fetch 240 1198 = some (.ifCond .eq 5, 3, 2, 1203, 0) := by decide +kernel
set_option maxRecDepth 100000 in
theorem fe_240_1201 : am_fetch 240 1201 = some (.iconst 0, 1, 0, 0, 0) := by decide +kernel
set_option maxRecDepth 100000 in
theorem fe_240_1202 : am_fetch 240 1202 = some (.ireturn, 1, 8, 0, 0) := by decide +kernel
set_option maxRecDepth 100000 in
theorem fe_240_1203 : am_fetch 240 1203 = some (.goto 540, 3, 2, 1743, 0) := by decide +kernel
set_option maxRecDepth 100000 in
theorem fe_240_1206 : am_fetch 240 1206 = some (.aload_n 1, 1, 1, 0, 0) := by decide +kernel
set_option maxRecDepth 100000 in
theorem fe_240_1207 : am_fetch 240 1207 = some (.aload_n 0, 1, 1, 0, 0) := by decide +kernel
set_option maxRecDepth 100000 in
theorem fe_240_1208 : am_fetch 240 1208 = some (.iload 4, 2, 1, 0, 0) := by decide +kernel
set_option maxRecDepth 100000 in
theorem fe_240_1210 : am_fetch 240 1210 = some (.iconst 1, 1, 0, 0, 0) := by decide +kernel
set_option maxRecDepth 100000 in
theorem fe_240_1211 : am_fetch 240 1211 = some (.iadd, 1, 0, 0, 0) := by decide +kernel
set_option maxRecDepth 100000 in
theorem fe_240_1212 : am_fetch 240 1212 = some (.iaload, 1, 3, 0, 0) := by decide +kernel
set_option maxRecDepth 100000 in
theorem fe_240_1213 : am_fetch 240 1213 = some (.aload_n 0, 1, 1, 0, 0) := by decide +kernel
set_option maxRecDepth 100000 in
theorem fe_240_1214 : am_fetch 240 1214 = some (.iload 4, 2, 1, 0, 0) := by decide +kernel
set_option maxRecDepth 100000 in
theorem fe_240_1216 : am_fetch 240 1216 = some (.iconst 2, 1, 0, 0, 0) := by decide +kernel
set_option maxRecDepth 100000 in
theorem fe_240_1217 : am_fetch 240 1217 = some (.iadd, 1, 0, 0, 0) := by decide +kernel
set_option maxRecDepth 100000 in
theorem fe_240_1218 : am_fetch 240 1218 = some (.iaload, 1, 3, 0, 0) := by decide +kernel
set_option maxRecDepth 100000 in
theorem fe_240_1219 : am_fetch 240 1219 = some (.aload_n 3, 1, 1, 0, 0) := by decide +kernel
set_option maxRecDepth 100000 in
theorem fe_240_1220 : am_fetch 240 1220 = some (.invokestatic 163, 3, 7, 179, 0) := by decide +kernel
set_option maxRecDepth 100000 in
theorem fe_240_1223 : am_fetch 240 1223 = some (.istore 5, 2, 1, 0, 0) := by decide +kernel
set_option maxRecDepth 100000 in
theorem fe_240_1225 : am_fetch 240 1225 = some (.aload_n 2, 1, 1, 0, 0) := by decide +kernel
set_option maxRecDepth 100000 in
theorem fe_240_1226 : am_fetch 240 1226 = some (.aload_n 0, 1, 1, 0, 0) := by decide +kernel
set_option maxRecDepth 100000 in
theorem fe_240_1227 : am_fetch 240 1227 = some (.iload 4, 2, 1, 0, 0) := by decide +kernel
set_option maxRecDepth 100000 in
theorem fe_240_1229 : am_fetch 240 1229 = some (.iconst 1, 1, 0, 0, 0) := by decide +kernel
set_option maxRecDepth 100000 in
theorem fe_240_1230 : am_fetch 240 1230 = some (.iadd, 1, 0, 0, 0) := by decide +kernel
set_option maxRecDepth 100000 in
theorem fe_240_1231 : am_fetch 240 1231 = some (.iaload, 1, 3, 0, 0) := by decide +kernel
set_option maxRecDepth 100000 in
theorem fe_240_1232 : am_fetch 240 1232 = some (.aload_n 0, 1, 1, 0, 0) := by decide +kernel
set_option maxRecDepth 100000 in
theorem fe_240_1233 : am_fetch 240 1233 = some (.iload 4, 2, 1, 0, 0) := by decide +kernel
set_option maxRecDepth 100000 in
theorem fe_240_1235 : am_fetch 240 1235 = some (.iconst 2, 1, 0, 0, 0) := by decide +kernel
set_option maxRecDepth 100000 in
theorem fe_240_1236 : am_fetch 240 1236 = some (.iadd, 1, 0, 0, 0) := by decide +kernel
set_option maxRecDepth 100000 in
theorem fe_240_1237 : am_fetch 240 1237 = some (.iaload, 1, 3, 0, 0) := by decide +kernel
set_option maxRecDepth 100000 in
theorem fe_240_1238 : am_fetch 240 1238 = some (.invokevirtual 165, 3, 7, 181, 0) := by decide +kernel
set_option maxRecDepth 100000 in
theorem fe_240_1241 : am_fetch 240 1241 = some (.istore 6, 2, 1, 0, 0) := by decide +kernel
set_option maxRecDepth 100000 in
theorem fe_240_1243 : am_fetch 240 1243 = some (.aload_n 2, 1, 1, 0, 0) := by decide +kernel
set_option maxRecDepth 100000 in
theorem fe_240_1244 : am_fetch 240 1244 = some (.invokevirtual 101, 3, 7, 35, 0) := by decide +kernel
set_option maxRecDepth 100000 in
theorem fe_240_1247 : am_fetch 240 1247 = some (.iload 5, 2, 1, 0, 0) := by decide +kernel
set_option maxRecDepth 100000 in
theorem fe_240_1249 : am_fetch 240 1249 = some (.if_icmp .eq 5, 3, 2, 1254, 0) := by decide +kernel
set_option maxRecDepth 100000 in
theorem fe_240_1252 : am_fetch 240 1252 = some (.iconst 0, 1, 0, 0, 0) := by decide +kernel
set_option maxRecDepth 100000 in
theorem fe_240_1253 : am_fetch 240 1253 = some (.ireturn, 1, 8, 0, 0) := by decide +kernel
set_option maxRecDepth 100000 in
theorem fe_240_1254 : am_fetch 240 1254 = some (.iload 5, 2, 1, 0, 0) := by decide +kernel
set_option maxRecDepth 100000 in
theorem fe_240_1256 : am_fetch 240 1256 = some (.ifCond .ne 15, 3, 2, 1271, 0) := by decide +kernel
set_option maxRecDepth 100000 in
theorem fe_240_1259 : am_fetch 240 1259 = some (.aload_n 3, 1, 1, 0, 0) := by decide +kernel
set_option maxRecDepth 100000 in
theorem fe_240_1260 : am_fetch 240 1260 = some (.iconst 0, 1, 0, 0, 0) := by decide +kernel
set_option maxRecDepth 100000 in
theorem fe_240_1261 : am_fetch 240 1261 = some (.laload, 1, 3, 0, 0) := by decide +kernel
set_option maxRecDepth 100000 in
theorem fe_240_1262 : am_fetch 240 1262 = some (.iload 6, 2, 1, 0, 0) := by decide +kernel
set_option maxRecDepth 100000 in
theorem fe_240_1264 : am_fetch 240 1264 = some (.i2l, 1, 0, 0, 0) := by decide +kernel
set_option maxRecDepth 100000 in
theorem fe_240_1265 : am_fetch 240 1265 = some (.lcmp, 1, 0, 0, 0) := by decide +kernel
set_option maxRecDepth 100000 in
theorem fe_240_1266 : am_fetch 240 1266 = some (.ifCond .eq 5, 3, 2, 1271, 0) := by decide +kernel
set_option maxRecDepth 100000 in
theorem fe_240_1269 : am_fetch 240 1269 = some (.iconst 0, 1, 0, 0, 0) := by decide +kernel
set_option maxRecDepth 100000 in
theorem fe_240_1270 : am_fetch 240 1270 = some (.ireturn, 1, 8, 0, 0) := by decide +kernel
set_option maxRecDepth 100000 in
theorem fe_240_1271 : am_fetch 240 1271 = some (.goto 472, 3, 2, 1743, 0) := by decide +kernel
set_option maxRecDepth 100000 in
theorem fe_240_1274 : am_fetch 240 1274 = some (.aload_n 1, 1, 1, 0, 0) := by decide +kernel
set_option maxRecDepth 100000 in
theorem fe_240_1275 : am_fetch 240 1275 = some (.aload_n 0, 1, 1, 0, 0) := by decide +kernel
set_option maxRecDepth 100000 in
theorem fe_240_1276 : am_fetch 240 1276 = some (.iload 4, 2, 1, 0, 0) := by decide +kernel
set_option maxRecDepth 100000 in
theorem fe_240_1278 : am_fetch 240 1278 = some (.iconst 1, 1, 0, 0, 0) := by decide +kernel
set_option maxRecDepth 100000 in
theorem fe_240_1279 : am_fetch 240 1279 = some (.iadd, 1, 0, 0, 0) := by decide +kernel
set_option maxRecDepth 100000 in
theorem fe_240_1280 : am_fetch 240 1280 = some (.iaload, 1, 3, 0, 0) := by decide +kernel
set_option maxRecDepth 100000 in
theorem fe_240_1281 : am_fetch 240 1281 = some (.aload_n 3, 1, 1, 0, 0) := by decide +kernel
set_option maxRecDepth 100000 in
theorem fe_240_1282 : am_fetch 240 1282 = some (.invokestatic 166, 3, 7, 184, 0) := by decide +kernel
set_option maxRecDepth 100000 in
theorem fe_240_1285 : am_fetch 240 1285 = some (.istore 5, 2, 1, 0, 0) := by decide +kernel
set_option maxRecDepth 100000 in
theorem fe_240_1287 : am_fetch 240 1287 = some (.aload_n 2, 1, 1, 0, 0) := by decide +kernel
set_option maxRecDepth 100000 in
theorem fe_240_1288 : am_fetch 240 1288 = some (.aload_n 0, 1, 1, 0, 0) := by decide +kernel
set_option maxRecDepth 100000 in
theorem fe_240_1289 : am_fetch 240 1289 = some (.iload 4, 2, 1, 0, 0) := by decide +kernel
set_option maxRecDepth 100000 in
theorem fe_240_1291 : am_fetch 240 1291 = some (.iconst 1, 1, 0, 0, 0) := by decide +kernel
set_option maxRecDepth 100000 in
theorem fe_240_1292 : am_fetch 240 1292 = some (.iadd, 1, 0, 0, 0) := by decide +kernel
set_option maxRecDepth 100000 in
theorem fe_240_1293 : am_fetch 240 1293 = some (.iaload, 1, 3, 0, 0) := by decide +kernel
set_option maxRecDepth 100000 in
theorem fe_240_1294 : am_fetch 240 1294 = some (.invokevirtual 168, 3, 7, 186, 0) := by decide +kernel
set_option maxRecDepth 100000 in
theorem fe_240_1297 : am_fetch 240 1297 = some (.istore 6, 2, 1, 0, 0) := by decide +kernel
set_option maxRecDepth 100000 in
theorem fe_240_1299 : am_fetch 240 1299 = some (.aload_n 2, 1, 1, 0, 0) := by decide +kernel
set_option maxRecDepth 100000 in
theorem fe_240_1300 : am_fetch 240 1300 = some (.invokevirtual 101, 3, 7, 35, 0) := by decide +kernel
set_option maxRecDepth 100000 in
theorem fe_240_1303 : am_fetch 240 1303 = some (.iload 5, 2, 1, 0, 0) := by decide +kernel
set_option maxRecDepth 100000 in
theorem fe_240_1305 : am_fetch 240 1305 = some (.if_icmp .eq 5, 3, 2, 1310, 0) := by decide +kernel
set_option maxRecDepth 100000 in
theorem fe_240_1308 : am_fetch 240 1308 = some (.iconst 0, 1, 0, 0, 0) := by decide +kernel
set_option maxRecDepth 100000 in
theorem fe_240_1309 : am_fetch 240 1309 = some (.ireturn, 1, 8, 0, 0) := by decide +kernel
set_option maxRecDepth 100000 in
theorem fe_240_1310 : am_fetch 240 1310 = some (.iload 5, 2, 1, 0, 0) := by decide +kernel
set_option maxRecDepth 100000 in
theorem fe_240_1312 : am_fetch 240 1312 = some (.ifCond .ne 15, 3, 2, 1327, 0) := by decide +kernel
set_option maxRecDepth 100000 in
theorem fe_240_1315 : am_fetch 240 1315 = some (.aload_n 3, 1, 1, 0, 0) := by decide +kernel
set_option maxRecDepth 100000 in
theorem fe_240_1316 : am_fetch 240 1316 = some (.iconst 0, 1, 0, 0, 0) := by decide +kernel
set_option maxRecDepth 100000 in
theorem fe_240_1317 : am_fetch 240 1317 = some (.laload, 1, 3, 0, 0) := by decide +kernel
set_option maxRecDepth 100000 in
theorem fe_240_1318 : am_fetch 240 1318 = some (.iload 6, 2, 1, 0, 0) := by decide +kernel
set_option maxRecDepth 100000 in
theorem fe_240_1320 : am_fetch 240 1320 = some (.i2l, 1, 0, 0, 0) := by decide +kernel
set_option maxRecDepth 100000 in
theorem fe_240_1321 : am_fetch 240 1321 = some (.lcmp, 1, 0, 0, 0) := by decide +kernel
set_option maxRecDepth 100000 in
theorem fe_240_1322 : am_fetch 240 1322 = some (.ifCond .eq 5, 3, 2, 1327, 0) := by decide +kernel
set_option maxRecDepth 100000 in
theorem fe_240_1325 : am_fetch 240 1325 = some (.iconst 0, 1, 0, 0, 0) := by decide +kernel
set_option maxRecDepth 100000 in
theorem fe_240_1326 : am_fetch 240 1326 = some (.ireturn, 1, 8, 0, 0) := by decide +kernel
set_option maxRecDepth 100000 in
theorem fe_240_1327 : am_fetch 240 1327 = some (.goto 416, 3, 2, 1743, 0) := by decide +kernel
set_option maxRecDepth 100000 in
theorem fe_240_1330 : am_fetch 240 1330 = some (.aload_n 1, 1, 1, 0, 0) := by decide +kernel
set_option maxRecDepth 100000 in
theorem fe_240_1331 : am_fetch 240 1331 = some (.aload_n 0, 1, 1, 0, 0) := by decide +kernel
set_option maxRecDepth 100000 in
theorem fe_240_1332 : am_fetch 240 1332 = some (.iload 4, 2, 1, 0, 0) := by decide +kernel
set_option maxRecDepth 100000 in
theorem fe_240_1334 : am_fetch 240 1334 = some (.iconst 1, 1, 0, 0, 0) := by decide +kernel
set_option maxRecDepth 100000 in
theorem fe_240_1335 : am_fetch 240 1335 = some (.iadd, 1, 0, 0, 0) := by decide +kernel
set_option maxRecDepth 100000 in
theorem fe_240_1336 : am_fetch 240 1336 = some (.iaload, 1, 3, 0, 0) := by decide +kernel
set_option maxRecDepth 100000 in
theorem fe_240_1337 : am_fetch 240 1337 = some (.aload_n 3, 1, 1, 0, 0) := by decide +kernel
set_option maxRecDepth 100000 in
theorem fe_240_1338 : am_fetch 240 1338 = some (.invokestatic 169, 3, 7, 198, 0) := by decide +kernel
set_option maxRecDepth 100000 in
theorem fe_240_1341 : am_fetch 240 1341 = some (.istore 5, 2, 1, 0, 0) := by decide +kernel
set_option maxRecDepth 100000 in
theorem fe_240_1343 : am_fetch 240 1343 = some (.aload_n 2, 1, 1, 0, 0) := by decide +kernel
set_option maxRecDepth 100000 in
theorem fe_240_1344 : am_fetch 240 1344 = some (.aload_n 0, 1, 1, 0, 0) := by decide +kernel
set_option maxRecDepth 100000 in
theorem fe_240_1345 : am_fetch 240 1345 = some (.iload 4, 2, 1, 0, 0) := by decide +kernel
set_option maxRecDepth 100000 in
theorem fe_240_1347 : am_fetch 240 1347 = some (.iconst 1, 1, 0, 0, 0) := by decide +kernel
set_option maxRecDepth 100000 in
theorem fe_240_1348 : am_fetch 240 1348 = some (.iadd, 1, 0, 0, 0) := by decide +kernel
set_option maxRecDepth 100000 in
theorem fe_240_1349 : am_fetch 240 1349 = some (.iaload, 1, 3, 0, 0) := by decide +kernel
set_option maxRecDepth 100000 in
theorem fe_240_1350 : am_fetch 240 1350 = some (.invokevirtual 171, 3, 7, 206, 0) := by decide +kernel
set_option maxRecDepth 100000 in
theorem fe_240_1353 : am_fetch 240 1353 = some (.istore 6, 2, 1, 0, 0) := by decide +kernel
set_option maxRecDepth 100000 in
theorem fe_240_1355 : am_fetch 240 1355 = some (.aload_n 2, 1, 1, 0, 0) := by decide +kernel
set_option maxRecDepth 100000 in
theorem fe_240_1356 : am_fetch 240 1356 = some (.invokevirtual 101, 3, 7, 35, 0) := by decide +kernel
set_option maxRecDepth 100000 in
theorem fe_240_1359 : am_fetch 240 1359 = some (.iload 5, 2, 1, 0, 0) := by decide +kernel
set_option maxRecDepth 100000 in
theorem fe_240_1361 : am_fetch 240 1361 = some (.if_icmp .eq 5, 3, 2, 1366, 0) := by decide +kernel
set_option maxRecDepth 100000 in
theorem fe_240_1364 : am_fetch 240 1364 = some (.iconst 0, 1, 0, 0, 0) := by decide +kernel
set_option maxRecDepth 100000 in
theorem fe_240_1365 : am_fetch 240 1365 = some (.ireturn, 1, 8, 0, 0) := by decide +kernel
set_option maxRecDepth 100000 in
theorem fe_240_1366 : am_fetch 240 1366 = some (.iload 5, 2, 1, 0, 0) := by decide +kernel
set_option maxRecDepth 100000 in
theorem fe_240_1368 : am_fetch 240 1368 = some (.ifCond .ne 15, 3, 2, 1383, 0) := by decide +kernel
set_option maxRecDepth 100000 in
theorem fe_240_1371 : am_fetch 240 1371 = some (.aload_n 3, 1, 1, 0, 0) := by decide +kernel
set_option maxRecDepth 100000 in
theorem fe_240_1372 : am_fetch 240 1372 = some (.iconst 0, 1, 0, 0, 0) := by decide +kernel
set_option maxRecDepth 100000 in
theorem fe_240_1373 : am_fetch 240 1373 = some (.laload, 1, 3, 0, 0) := by decide +kernel
set_option maxRecDepth 100000 in
theorem fe_240_1374 : am_fetch 240 1374 = some (.iload 6, 2, 1, 0, 0) := by decide +kernel
set_option maxRecDepth 100000 in
theorem fe_240_1376 : am_fetch 240 1376 = some (.i2l, 1, 0, 0, 0) := by decide +kernel
set_option maxRecDepth 100000 in
theorem fe_240_1377 : am_fetch 240 1377 = some (.lcmp, 1, 0, 0, 0) := by decide +kernel
set_option maxRecDepth 100000 in
theorem fe_240_1378 : am_fetch 240 1378 = some (.ifCond .eq 5, 3, 2, 1383, 0) := by decide +kernel
set_option maxRecDepth 100000 in
theorem fe_240_1381 : am_fetch 240 1381 = some (.iconst 0, 1, 0, 0, 0) := by decide +kernel
set_option maxRecDepth 100000 in
theorem fe_240_1382 : am_fetch 240 1382 = some (.ireturn, 1, 8, 0, 0) := by decide +kernel
set_option maxRecDepth 100000 in
theorem fe_240_1383 : am_fetch 240 1383 = some (.goto 360, 3, 2, 1743, 0) := by decide +kernel
set_option maxRecDepth 100000 in
theorem fe_240_1386 : am_fetch 240 1386 = some (.aload_n 1, 1, 1, 0, 0) := by decide +kernel
set_option maxRecDepth 100000 in
theorem fe_240_1387 : am_fetch 240 1387 = some (.invokevirtual 172, 3, 7, 208, 0) := by decide +kernel
set_option maxRecDepth 100000 in
theorem fe_240_1390 : am_fetch 240 1390 = some (.f2d, 1, 0, 0, 0) := by decide +kernel
set_option maxRecDepth 100000 in
theorem fe_240_1391 : am_fetch 240 1391 = some (.dstore 5, 2, 1, 0, 0) := by decide +kernel
set_option maxRecDepth 100000 in
theorem fe_240_1393 : am_fetch 240 1393 = some (.aload_n 2, 1, 1, 0, 0) := by decide +kernel
set_option maxRecDepth 100000 in
theorem fe_240_1394 : am_fetch 240 1394 = some (.invokevirtual 176, 3, 7, 209, 0) := by decide +kernel
set_option maxRecDepth 100000 in
theorem fe_240_1397 : am_fetch 240 1397 = some (.f2d, 1, 0, 0, 0) := by decide +kernel
set_option maxRecDepth 100000 in
theorem fe_240_1398 : am_fetch 240 1398 = some (.dstore 7, 2, 1, 0, 0) := by decide +kernel
set_option maxRecDepth 100000 in
theorem fe_240_1400 : am_fetch 240 1400 = some (.dload 5, 2, 1, 0, 0) := by decide +kernel
set_option maxRecDepth 100000 in
theorem fe_240_1402 : am_fetch 240 1402 = some (.dload 7, 2, 1, 0, 0) := by decide +kernel
set_option maxRecDepth 100000 in
theorem fe_240_1404 : am_fetch 240 1404 = some (.dcmp .l, 1, 0, 0, 0) := by decide +kernel
set_option maxRecDepth 100000 in
theorem fe_240_1405 : am_fetch 240 1405 = some (.ifCond .eq 21, 3, 2, 1426, 0) := by decide +kernel
set_option maxRecDepth 100000 in
theorem fe_240_1408 : am_fetch 240 1408 = some (.dload 5, 2, 1, 0, 0) := by decide +kernel
set_option maxRecDepth 100000 in
theorem fe_240_1410 : am_fetch 240 1410 = some (.dload 5, 2, 1, 0, 0) := by decide +kernel
set_option maxRecDepth 100000 in
theorem fe_240_1412 : am_fetch 240 1412 = some (.dcmp .l, 1, 0, 0, 0) := by decide +kernel
set_option maxRecDepth 100000 in
theorem fe_240_1413 : am_fetch 240 1413 = some (.ifCond .eq 11, 3, 2, 1424, 0) := by decide +kernel
set_option maxRecDepth 100000 in
theorem fe_240_1416 : am_fetch 240 1416 = some (.dload 7, 2, 1, 0, 0) := by decide +kernel
set_option maxRecDepth 100000 in
theorem fe_240_1418 : am_fetch 240 1418 = some (.dload 7, 2, 1, 0, 0) := by decide +kernel
set_option maxRecDepth 100000 in
theorem fe_240_1420 : am_fetch 240 1420 = some (.dcmp .l, 1, 0, 0, 0) := by decide +kernel
set_option maxRecDepth 100000 in
theorem fe_240_1421 : am_fetch 240 1421 = some (.ifCond .ne 5, 3, 2, 1426, 0) := by decide +kernel
set_option maxRecDepth 100000 in
theorem fe_240_1424 : am_fetch 240 1424 = some (.iconst 0, 1, 0, 0, 0) := by decide +kernel
set_option maxRecDepth 100000 in
theorem fe_240_1425 : am_fetch 240 1425 = some (.ireturn, 1, 8, 0, 0) := by decide +kernel
set_option maxRecDepth 100000 in
theorem fe_240_1426 : am_fetch 240 1426 = some (.goto 317, 3, 2, 1743, 0) := by decide +kernel
set_option maxRecDepth 100000 in
theorem fe_240_1429 : am_fetch 240 1429 = some (.aload_n 1, 1, 1, 0, 0) := by decide +kernel
set_option maxRecDepth 100000 in
theorem fe_240_1430 : am_fetch 240 1430 = some (.aload_n 0, 1, 1, 0, 0) := by decide +kernel
set_option maxRecDepth 100000 in
theorem fe_240_1431 : am_fetch 240 1431 = some (.iload 4, 2, 1, 0, 0) := by decide +kernel
set_option maxRecDepth 100000 in
theorem fe_240_1433 : am_fetch 240 1433 = some (.iconst 1, 1, 0, 0, 0) := by decide +kernel
set_option maxRecDepth 100000 in
theorem fe_240_1434 : am_fetch 240 1434 = some (.iadd, 1, 0, 0, 0) := by decide +kernel
set_option maxRecDepth 100000 in
theorem fe_240_1435 : am_fetch 240 1435 = some (.iaload, 1, 3, 0, 0) := by decide +kernel
set_option maxRecDepth 100000 in
theorem fe_240_1436 : am_fetch 240 1436 = some (.aload_n 0, 1, 1, 0, 0) := by decide +kernel
set_option maxRecDepth 100000 in
theorem fe_240_1437 : am_fetch 240 1437 = some (.iload 4, 2, 1, 0, 0) := by decide +kernel
set_option maxRecDepth 100000 in
theorem fe_240_1439 : am_fetch 240 1439 = some (.iconst 2, 1, 0, 0, 0) := by decide +kernel
set_option maxRecDepth 100000 in
theorem fe_240_1440 : am_fetch 240 1440 = some (.iadd, 1, 0, 0, 0) := by decide +kernel
set_option maxRecDepth 100000 in
theorem fe_240_1441 : am_fetch 240 1441 = some (.iaload, 1, 3, 0, 0) := by decide +kernel
set_option maxRecDepth 100000 in
theorem fe_240_1442 : am_fetch 240 1442 = some (.aload_n 0, 1, 1, 0, 0) := by decide +kernel
set_option maxRecDepth 100000 in
theorem fe_240_1443 : am_fetch 240 1443 = some (.iload 4, 2, 1, 0, 0) := by decide +kernel
set_option maxRecDepth 100000 in
theorem fe_240_1445 : am_fetch 240 1445 = some (.iconst 3, 1, 0, 0, 0) := by decide +kernel
set_option maxRecDepth 100000 in
theorem fe_240_1446 : am_fetch 240 1446 = some (.iadd, 1, 0, 0, 0) := by decide +kernel
set_option maxRecDepth 100000 in
theorem fe_240_1447 : am_fetch 240 1447 = some (.iaload, 1, 3, 0, 0) := by decide +kernel
set_option maxRecDepth 100000 in
theorem fe_240_1448 : am_fetch 240 1448 = some (.aload_n 3, 1, 1, 0, 0) := by decide +kernel
set_option maxRecDepth 100000 in
theorem fe_240_1449 : am_fetch 240 1449 = some (.invokestatic 177, 3, 7, 216, 0) := by decide +kernel
set_option maxRecDepth 100000 in
theorem fe_240_1452 : am_fetch 240 1452 = some (.istore 5, 2, 1, 0, 0) := by decide +kernel
set_option maxRecDepth 100000 in
theorem fe_240_1454 : am_fetch 240 1454 = some (.aload_n 2, 1, 1, 0, 0) := by decide +kernel
set_option maxRecDepth 100000 in
theorem fe_240_1455 : am_fetch 240 1455 = some (.aload_n 0, 1, 1, 0, 0) := by decide +kernel
set_option maxRecDepth 100000 in
theorem fe_240_1456 : am_fetch 240 1456 = some (.iload 4, 2, 1, 0, 0) := by decide +kernel
set_option maxRecDepth 100000 in
theorem fe_240_1458 : am_fetch 240 1458 = some (.iconst 1, 1, 0, 0, 0) := by decide +kernel
set_option maxRecDepth 100000 in
theorem fe_240_1459 : am_fetch 240 1459 = some (.iadd, 1, 0, 0, 0) := by decide +kernel
set_option maxRecDepth 100000 in
theorem fe_240_1460 : am_fetch 240 1460 = some (.iaload, 1, 3, 0, 0) := by decide +kernel
set_option maxRecDepth 100000 in
theorem fe_240_1461 : am_fetch 240 1461 = some (.aload_n 0, 1, 1, 0, 0) := by decide +kernel
set_option maxRecDepth 100000 in
theorem fe_240_1462 : am_fetch 240 1462 = some (.iload 4, 2, 1, 0, 0) := by decide +kernel
set_option maxRecDepth 100000 in
theorem fe_240_1464 : am_fetch 240 1464 = some (.iconst 2, 1, 0, 0, 0) := by decide +kernel
set_option maxRecDepth 100000 in
theorem fe_240_1465 : am_fetch 240 1465 = some (.iadd, 1, 0, 0, 0) := by decide +kernel
set_option maxRecDepth 100000 in
theorem fe_240_1466 : am_fetch 240 1466 = some (.iaload, 1, 3, 0, 0) := by decide +kernel
set_option maxRecDepth 100000 in
theorem fe_240_1467 : am_fetch 240 1467 = some (.aload_n 0, 1, 1, 0, 0) := by decide +kernel
set_option maxRecDepth 100000 in
theorem fe_240_1468 : am_fetch 240 1468 = some (.iload 4, 2, 1, 0, 0) := by decide +kernel
set_option maxRecDepth 100000 in
theorem fe_240_1470 : am_fetch 240 1470 = some (.iconst 3, 1, 0, 0, 0) := by decide +kernel
set_option maxRecDepth 100000 in
theorem fe_240_1471 : am_fetch 240 1471 = some (.iadd, 1, 0, 0, 0) := by decide +kernel
set_option maxRecDepth 100000 in
theorem fe_240_1472 : am_fetch 240 1472 = some (.iaload, 1, 3, 0, 0) := by decide +kernel
set_option maxRecDepth 100000 in
theorem fe_240_1473 : am_fetch 240 1473 = some (.invokevirtual 179, 3, 7, 219, 0) := by decide +kernel
set_option maxRecDepth 100000 in
theorem fe_240_1476 : am_fetch 240 1476 = some (.istore 6, 2, 1, 0, 0) := by decide +kernel
set_option maxRecDepth 100000 in
theorem fe_240_1478 : am_fetch 240 1478 = some (.aload_n 2, 1, 1, 0, 0) := by decide +kernel
set_option maxRecDepth 100000 in
theorem fe_240_1479 : am_fetch 240 1479 = some (.invokevirtual 101, 3, 7, 35, 0) := by decide +kernel
set_option maxRecDepth 100000 in
theorem fe_240_1482 : am_fetch 240 1482 = some (.iload 5, 2, 1, 0, 0) := by decide +kernel
set_option maxRecDepth 100000 in
theorem fe_240_1484 : am_fetch 240 1484 = some (.if_icmp .eq 5, 3, 2, 1489, 0) := by decide +kernel
set_option maxRecDepth 100000 in
theorem fe_240_1487 : am_fetch 240 1487 = some (.iconst 0, 1, 0, 0, 0) := by decide +kernel
set_option maxRecDepth 100000 in
theorem fe_240_1488 : am_fetch 240 1488 = some (.ireturn, 1, 8, 0, 0) := by decide +kernel
set_option maxRecDepth 100000 in
theorem fe_240_1489 : am_fetch 240 1489 = some (.iload 5, 2, 1, 0, 0) := by decide +kernel
set_option maxRecDepth 100000 in
theorem fe_240_1491 : am_fetch 240 1491 = some (.ifCond .ne 15, 3, 2, 1506, 0) := by decide +kernel
set_option maxRecDepth 100000 in
theorem fe_240_1494 : am_fetch 240 1494 = some (.aload_n 3, 1, 1, 0, 0) := by decide +kernel
set_option maxRecDepth 100000 in
theorem fe_240_1495 : am_fetch 240 1495 = some (.iconst 0, 1, 0, 0, 0) := by decide +kernel
set_option maxRecDepth 100000 in
theorem fe_240_1496 : am_fetch 240 1496 = some (.laload, 1, 3, 0, 0) := by decide +kernel
set_option maxRecDepth 100000 in
theorem fe_240_1497 : am_fetch 240 1497 = some (.iload 6, 2, 1, 0, 0) := by decide +kernel
set_option maxRecDepth 100000 in
theorem fe_240_1499 : am_fetch 240 1499 = some (.i2l, 1, 0, 0, 0) := by decide +kernel
set_option maxRecDepth 100000 in
theorem fe_240_1500 : am_fetch 240 1500 = some (.lcmp, 1, 0, 0, 0) := by decide +kernel
set_option maxRecDepth 100000 in
theorem fe_240_1501 : am_fetch 240 1501 = some (.ifCond .eq 5, 3, 2, 1506, 0) := by decide +kernel
set_option maxRecDepth 100000 in
theorem fe_240_1504 : am_fetch 240 1504 = some (.iconst 0, 1, 0, 0, 0) := by decide +kernel
set_option maxRecDepth 100000 in
theorem fe_240_1505 : am_fetch 240 1505 = some (.ireturn, 1, 8, 0, 0) := by decide +kernel
set_option maxRecDepth 100000 in
theorem fe_240_1506 : am_fetch 240 1506 = some (.goto 237, 3, 2, 1743, 0) := by decide +kernel
set_option maxRecDepth 100000 in
theorem fe_240_1509 : am_fetch 240 1509 = some (.aload_n 1, 1, 1, 0, 0) := by decide +kernel
set_option maxRecDepth 100000 in
theorem fe_240_1510 : am_fetch 240 1510 = some (.aload_n 0, 1, 1, 0, 0) := by decide +kernel
set_option maxRecDepth 100000 in
theorem fe_240_1511 : am_fetch 240 1511 = some (.iload 4, 2, 1, 0, 0) := by decide +kernel
set_option maxRecDepth 100000 in
theorem fe_240_1513 : am_fetch 240 1513 = some (.iconst 1, 1, 0, 0, 0) := by decide +kernel
set_option maxRecDepth 100000 in
theorem fe_240_1514 : am_fetch 240 1514 = some (.iadd, 1, 0, 0, 0) := by decide +kernel
set_option maxRecDepth 100000 in
theorem fe_240_1515 : am_fetch 240 1515 = some (.iaload, 1, 3, 0, 0) := by decide +kernel
set_option maxRecDepth 100000 in
theorem fe_240_1516 : am_fetch 240 1516 = some (.aload_n 0, 1, 1, 0, 0) := by decide +kernel
set_option maxRecDepth 100000 in
theorem fe_240_1517 : am_fetch 240 1517 = some (.iload 4, 2, 1, 0, 0) := by decide +kernel
set_option maxRecDepth 100000 in
theorem fe_240_1519 : am_fetch 240 1519 = some (.iconst 2, 1, 0, 0, 0) := by decide +kernel
set_option maxRecDepth 100000 in
theorem fe_240_1520 : am_fetch 240 1520 = some (.iadd, 1, 0, 0, 0) := by decide +kernel
set_option maxRecDepth 100000 in
theorem fe_240_1521 : am_fetch 240 1521 = some (.iaload, 1, 3, 0, 0) := by decide +kernel
set_option maxRecDepth 100000 in
theorem fe_240_1522 : am_fetch 240 1522 = some (.aload_n 3, 1, 1, 0, 0) := by decide +kernel
set_option maxRecDepth 100000 in
theorem fe_240_1523 : am_fetch 240 1523 = some (.invokestatic 180, 3, 7, 222, 0) := by decide +kernel
set_option maxRecDepth 100000 in
theorem fe_240_1526 : am_fetch 240 1526 = some (.istore 5, 2, 1, 0, 0) := by decide +kernel
set_option maxRecDepth 100000 in
theorem fe_240_1528 : am_fetch 240 1528 = some (.aload_n 2, 1, 1, 0, 0) := by decide +kernel
set_option maxRecDepth 100000 in
theorem fe_240_1529 : am_fetch 240 1529 = some (.aload_n 0, 1, 1, 0, 0) := by decide +kernel
set_option maxRecDepth 100000 in
theorem fe_240_1530 : am_fetch 240 1530 = some (.iload 4, 2, 1, 0, 0) := by decide +kernel
set_option maxRecDepth 100000 in
theorem fe_240_1532 : am_fetch 240 1532 = some (.iconst 1, 1, 0, 0, 0) := by decide +kernel
set_option maxRecDepth 100000 in
theorem fe_240_1533 : am_fetch 240 1533 = some (.iadd, 1, 0, 0, 0) := by decide +kernel
set_option maxRecDepth 100000 in
theorem fe_240_1534 : am_fetch 240 1534 = some (.iaload, 1, 3, 0, 0) := by decide +kernel
set_option maxRecDepth 100000 in
theorem fe_240_1535 : am_fetch 240 1535 = some (.aload_n 0, 1, 1, 0, 0) := by decide +kernel
set_option maxRecDepth 100000 in
theorem fe_240_1536 : am_fetch 240 1536 = some (.iload 4, 2, 1, 0, 0) := by decide +kernel
set_option maxRecDepth 100000 in
theorem fe_240_1538 : am_fetch 240 1538 = some (.iconst 2, 1, 0, 0, 0) := by decide +kernel
set_option maxRecDepth 100000 in
theorem fe_240_1539 : am_fetch 240 1539 = some (.iadd, 1, 0, 0, 0) := by decide +kernel
set_option maxRecDepth 100000 in
theorem fe_240_1540 : am_fetch 240 1540 = some (.iaload, 1, 3, 0, 0) := by decide +kernel
set_option maxRecDepth 100000 in
theorem fe_240_1541 : am_fetch 240 1541 = some (.invokevirtual 182, 3, 7, 223, 0) := by decide +kernel
set_option maxRecDepth 100000 in
theorem fe_240_1544 : am_fetch 240 1544 = some (.istore 6, 2, 1, 0, 0) := by decide +kernel
set_option maxRecDepth 100000 in
theorem fe_240_1546 : am_fetch 240 1546 = some (.aload_n 2, 1, 1, 0, 0) := by decide +kernel
set_option maxRecDepth 100000 in
theorem fe_240_1547 : am_fetch 240 1547 = some (.invokevirtual 101, 3, 7, 35, 0) := by decide +kernel
set_option maxRecDepth 100000 in
theorem fe_240_1550 : am_fetch 240 1550 = some (.iload 5, 2, 1, 0, 0) := by decide +kernel
set_option maxRecDepth 100000 in
theorem fe_240_1552 : am_fetch 240 1552 = some (.if_icmp .eq 5, 3, 2, 1557, 0) := by decide +kernel
set_option maxRecDepth 100000 in
theorem fe_240_1555 : am_fetch 240 1555 = some (.iconst 0, 1, 0, 0, 0) := by decide +kernel
set_option maxRecDepth 100000 in
theorem fe_240_1556 : am_fetch 240 1556 = some (.ireturn, 1, 8, 0, 0) := by decide +kernel
set_option maxRecDepth 100000 in
theorem fe_240_1557 : am_fetch 240 1557 = some (.iload 5, 2, 1, 0, 0) := by decide +kernel
set_option maxRecDepth 100000 in
theorem fe_240_1559 : am_fetch 240 1559 = some (.ifCond .ne 15, 3, 2, 1574, 0) := by decide +kernel
set_option maxRecDepth 100000 in
theorem fe_240_1562 : am_fetch 240 1562 = some (.aload_n 3, 1, 1, 0, 0) := by decide +kernel
set_option maxRecDepth 100000 in
theorem fe_240_1563 : am_fetch 240 1563 = some (.iconst 0, 1, 0, 0, 0) := by decide +kernel
set_option maxRecDepth 100000 in
theorem fe_240_1564 : am_fetch 240 1564 = some (.laload, 1, 3, 0, 0) := by decide +kernel
set_option maxRecDepth 100000 in
theorem fe_240_1565 : am_fetch 240 1565 = some (.iload 6, 2, 1, 0, 0) := by decide +kernel
set_option maxRecDepth 100000 in
theorem fe_240_1567 : am_fetch 240 1567 = some (.i2l, 1, 0, 0, 0) := by decide +kernel
set_option maxRecDepth 100000 in
theorem fe_240_1568 : am_fetch 240 1568 = some (.lcmp, 1, 0, 0, 0) := by decide +kernel
set_option maxRecDepth 100000 in
theorem fe_240_1569 : am_fetch 240 1569 = some (.ifCond .eq 5, 3, 2, 1574, 0) := by decide +kernel
set_option maxRecDepth 100000 in
theorem fe_240_1572 : am_fetch 240 1572 = some (.iconst 0, 1, 0, 0, 0) := by decide +kernel
set_option maxRecDepth 100000 in
theorem fe_240_1573 : am_fetch 240 1573 = some (.ireturn, 1, 8, 0, 0) := by decide +kernel
set_option maxRecDepth 100000 in
theorem fe_240_1574 : am_fetch 240 1574 = some (.goto 169, 3, 2, 1743, 0) := by decide +kernel
set_option maxRecDepth 100000 in
theorem fe_240_1577 : am_fetch 240 1577 = some (.aload_n 1, 1, 1, 0, 0) := by decide +kernel
set_option maxRecDepth 100000 in
theorem fe_240_1578 : am_fetch 240 1578 = some (.aload_n 0, 1, 1, 0, 0) := by decide +kernel
set_option maxRecDepth 100000 in
theorem fe_240_1579 : am_fetch 240 1579 = some (.iload 4, 2, 1, 0, 0) := by decide +kernel
set_option maxRecDepth 100000 in
theorem fe_240_1581 : am_fetch 240 1581 = some (.iconst 1, 1, 0, 0, 0) := by decide +kernel
set_option maxRecDepth 100000 in
theorem fe_240_1582 : am_fetch 240 1582 = some (.iadd, 1, 0, 0, 0) := by decide +kernel
set_option maxRecDepth 100000 in
theorem fe_240_1583 : am_fetch 240 1583 = some (.iaload, 1, 3, 0, 0) := by decide +kernel
set_option maxRecDepth 100000 in
theorem fe_240_1584 : am_fetch 240 1584 = some (.aload_n 3, 1, 1, 0, 0) := by decide +kernel
set_option maxRecDepth 100000 in
theorem fe_240_1585 : am_fetch 240 1585 = some (.invokestatic 183, 3, 7, 226, 0) := by decide +kernel
set_option maxRecDepth 100000 in
theorem fe_240_1588 : am_fetch 240 1588 = some (.istore 5, 2, 1, 0, 0) := by decide +kernel
set_option maxRecDepth 100000 in
theorem fe_240_1590 : am_fetch 240 1590 = some (.aload_n 2, 1, 1, 0, 0) := by decide +kernel
set_option maxRecDepth 100000 in
theorem fe_240_1591 : am_fetch 240 1591 = some (.aload_n 0, 1, 1, 0, 0) := by decide +kernel
set_option maxRecDepth 100000 in
theorem fe_240_1592 : am_fetch 240 1592 = some (.iload 4, 2, 1, 0, 0) := by decide +kernel
set_option maxRecDepth 100000 in
theorem fe_240_1594 : am_fetch 240 1594 = some (.iconst 1, 1, 0, 0, 0) := by decide +kernel
set_option maxRecDepth 100000 in
theorem fe_240_1595 : am_fetch 240 1595 = some (.iadd, 1, 0, 0, 0) := by decide +kernel
set_option maxRecDepth 100000 in
theorem fe_240_1596 : am_fetch 240 1596 = some (.iaload, 1, 3, 0, 0) := by decide +kernel
set_option maxRecDepth 100000 in
theorem fe_240_1597 : am_fetch 240 1597 = some (.invokevirtual 185, 3, 7, 227, 0) := by decide +kernel
set_option maxRecDepth 100000 in
theorem fe_240_1600 : am_fetch 240 1600 = some (.istore 6, 2, 1, 0, 0) := by decide +kernel
set_option maxRecDepth 100000 in
theorem fe_240_1602 : am_fetch 240 1602 = some (.aload_n 2, 1, 1, 0, 0) := by decide +kernel
set_option maxRecDepth 100000 in
theorem fe_240_1603 : am_fetch 240 1603 = some (.invokevirtual 101, 3, 7, 35, 0) := by decide +kernel
set_option maxRecDepth 100000 in
theorem fe_240_1606 : am_fetch 240 1606 = some (.iload 5, 2, 1, 0, 0) := by decide +kernel
set_option maxRecDepth 100000 in
theorem fe_240_1608 : am_fetch 240 1608 = some (.if_icmp .eq 5, 3, 2, 1613, 0) := by decide +kernel
set_option maxRecDepth 100000 in
theorem fe_240_1611 : am_fetch 240 1611 = some (.iconst 0, 1, 0, 0, 0) := by decide +kernel
set_option maxRecDepth 100000 in
theorem fe_240_1612 : am_fetch 240 1612 = some (.ireturn, 1, 8, 0, 0) := by decide +kernel
set_option maxRecDepth 100000 in
theorem fe_240_1613 : am_fetch 240 1613 = some (.iload 5, 2, 1, 0, 0) := by decide +kernel
set_option maxRecDepth 100000 in
theorem fe_240_1615 : am_fetch 240 1615 = some (.ifCond .ne 15, 3, 2, 1630, 0) := by decide +kernel
set_option maxRecDepth 100000 in
theorem fe_240_1618 : am_fetch 240 1618 = some (.aload_n 3, 1, 1, 0, 0) := by decide +kernel
set_option maxRecDepth 100000 in
theorem fe_240_1619 : am_fetch 240 1619 = some (.iconst 0, 1, 0, 0, 0) := by decide +kernel
set_option maxRecDepth 100000 in
theorem fe_240_1620 : am_fetch 240 1620 = some (.laload, 1, 3, 0, 0) := by decide +kernel
set_option maxRecDepth 100000 in
theorem fe_240_1621 : am_fetch 240 1621 = some (.iload 6, 2, 1, 0, 0) := by decide +kernel
set_option maxRecDepth 100000 in
theorem fe_240_1623 : am_fetch 240 1623 = some (.i2l, 1, 0, 0, 0) := by decide +kernel
set_option maxRecDepth 100000 in
theorem fe_240_1624 : am_fetch 240 1624 = some (.lcmp, 1, 0, 0, 0) := by decide +kernel
set_option maxRecDepth 100000 in
theorem fe_240_1625 : am_fetch 240 1625 = some (.ifCond .eq 5, 3, 2, 1630, 0) := by decide +kernel
set_option maxRecDepth 100000 in
theorem fe_240_1628 : am_fetch 240 1628 = some (.iconst 0, 1, 0, 0, 0) := by decide +kernel
set_option maxRecDepth 100000 in
theorem fe_240_1629 : am_fetch 240 1629 = some (.ireturn, 1, 8, 0, 0) := by decide +kernel
set_option maxRecDepth 100000 in
theorem fe_240_1630 : am_fetch 240 1630 = some (.goto 113, 3, 2, 1743, 0) := by decide +kernel
set_option maxRecDepth 100000 in
theorem fe_240_1633 : am_fetch 240 1633 = some (.aload_n 1, 1, 1, 0, 0) := by decide +kernel
set_option maxRecDepth 100000 in
theorem fe_240_1634 : am_fetch 240 1634 = some (.aload_n 0, 1, 1, 0, 0) := by decide +kernel
set_option maxRecDepth 100000 in
theorem fe_240_1635 : am_fetch 240 1635 = some (.iload 4, 2, 1, 0, 0) := by decide +kernel
set_option maxRecDepth 100000 in
theorem fe_240_1637 : am_fetch 240 1637 = some (.iconst 1, 1, 0, 0, 0) := by decide +kernel
set_option maxRecDepth 100000 in
theorem fe_240_1638 : am_fetch 240 1638 = some (.iadd, 1, 0, 0, 0) := by decide +kernel
set_option maxRecDepth 100000 in
theorem fe_240_1639 : am_fetch 240 1639 = some (.iaload, 1, 3, 0, 0) := by decide +kernel
set_option maxRecDepth 100000 in
theorem fe_240_1640 : am_fetch 240 1640 = some (.aload_n 3, 1, 1, 0, 0) := by decide +kernel
set_option maxRecDepth 100000 in
theorem fe_240_1641 : am_fetch 240 1641 = some (.invokestatic 186, 3, 7, 230, 0) := by decide +kernel
set_option maxRecDepth 100000 in
theorem fe_240_1644 : am_fetch 240 1644 = some (.istore 5, 2, 1, 0, 0) := by decide +kernel
set_option maxRecDepth 100000 in
theorem fe_240_1646 : am_fetch 240 1646 = some (.aload_n 2, 1, 1, 0, 0) := by decide +kernel
set_option maxRecDepth 100000 in
theorem fe_240_1647 : am_fetch 240 1647 = some (.aload_n 0, 1, 1, 0, 0) := by decide +kernel
set_option maxRecDepth 100000 in
theorem fe_240_1648 : am_fetch 240 1648 = some (.iload 4, 2, 1, 0, 0) := by decide +kernel
set_option maxRecDepth 100000 in
theorem fe_240_1650 : am_fetch 240 1650 = some (.iconst 1, 1, 0, 0, 0) := by decide +kernel
set_option maxRecDepth 100000 in
theorem fe_240_1651 : am_fetch 240 1651 = some (.iadd, 1, 0, 0, 0) := by decide +kernel
set_option maxRecDepth 100000 in
theorem fe_240_1652 : am_fetch 240 1652 = some (.iaload, 1, 3, 0, 0) := by decide +kernel
set_option maxRecDepth 100000 in
theorem fe_240_1653 : am_fetch 240 1653 = some (.invokevirtual 188, 3, 7, 231, 0) := by decide +kernel
set_option maxRecDepth 100000 in
theorem fe_240_1656 : am_fetch 240 1656 = some (.istore 6, 2, 1, 0, 0) := by decide +kernel
set_option maxRecDepth 100000 in
theorem fe_240_1658 : am_fetch 240 1658 = some (.aload_n 2, 1, 1, 0, 0) := by decide +kernel
set_option maxRecDepth 100000 in
theorem fe_240_1659 : am_fetch 240 1659 = some (.invokevirtual 101, 3, 7, 35, 0) := by decide +kernel
set_option maxRecDepth 100000 in
theorem fe_240_1662 : am_fetch 240 1662 = some (.iload 5, 2, 1, 0, 0) := by decide +kernel
set_option maxRecDepth 100000 in
theorem fe_240_1664 : am_fetch 240 1664 = some (.if_icmp .eq 5, 3, 2, 1669, 0) := by decide +kernel
set_option maxRecDepth 100000 in
theorem fe_240_1667 : am_fetch 240 1667 = some (.iconst 0, 1, 0, 0, 0) := by decide +kernel
set_option maxRecDepth 100000 in
theorem fe_240_1668 : am_fetch 240 1668 = some (.ireturn, 1, 8, 0, 0) := by decide +kernel
set_option maxRecDepth 100000 in
theorem fe_240_1669 : am_fetch 240 1669 = some (.iload 5, 2, 1, 0, 0) := by decide +kernel
set_option maxRecDepth 100000 in
theorem fe_240_1671 : am_fetch 240 1671 = some (.ifCond .ne 15, 3, 2, 1686, 0) := by decide +kernel
set_option maxRecDepth 100000 in
theorem fe_240_1674 : am_fetch 240 1674 = some (.aload_n 3, 1, 1, 0, 0) := by decide +kernel
set_option maxRecDepth 100000 in
theorem fe_240_1675 : am_fetch 240 1675 = some (.iconst 0, 1, 0, 0, 0) := by decide +kernel
set_option maxRecDepth 100000 in
theorem fe_240_1676 : am_fetch 240 1676 = some (.laload, 1, 3, 0, 0) := by decide +kernel
set_option maxRecDepth 100000 in
theorem fe_240_1677 : am_fetch 240 1677 = some (.iload 6, 2, 1, 0, 0) := by decide +kernel
set_option maxRecDepth 100000 in
theorem fe_240_1679 : am_fetch 240 1679 = some (.i2l, 1, 0, 0, 0) := by decide +kernel
set_option maxRecDepth 100000 in
theorem fe_240_1680 : am_fetch 240 1680 = some (.lcmp, 1, 0, 0, 0) := by decide +kernel
set_option maxRecDepth 100000 in
theorem fe_240_1681 : am_fetch 240 1681 = some (.ifCond .eq 5, 3, 2, 1686, 0) := by decide +kernel
set_option maxRecDepth 100000 in
theorem fe_240_1684 : am_fetch 240 1684 = some (.iconst 0, 1, 0, 0, 0) := by decide +kernel
set_option maxRecDepth 100000 in
theorem fe_240_1685 : am_fetch 240 1685 = some (.ireturn, 1, 8, 0, 0) := by decide +kernel
set_option maxRecDepth 100000 in
theorem fe_240_1686 : am_fetch 240 1686 = some (.goto 57, 3, 2, 1743, 0) := by decide +kernel
set_option maxRecDepth 100000 in
theorem fe_240_1689 : am_fetch 240 1689 = some (.aload_n 1, 1, 1, 0, 0) := by decide +kernel
set_option maxRecDepth 100000 in
theorem fe_240_1690 : am_fetch 240 1690 = some (.invokevirtual 189, 3, 7, 234, 0) := by decide +kernel
set_option maxRecDepth 100000 in
theorem fe_240_1693 : am_fetch 240 1693 = some (.aload_n 2, 1, 1, 0, 0) := by decide +kernel
set_option maxRecDepth 100000 in
theorem fe_240_1694 : am_fetch 240 1694 = some (.invokevirtual 192, 3, 7, 236, 0) := by decide +kernel
set_option maxRecDepth 100000 in
theorem fe_240_1697 : am_fetch 240 1697 = some (.if_icmp .eq 46, 3, 2, 1743, 0) := by decide +kernel
set_option maxRecDepth 100000 in
theorem fe_240_1700 : am_fetch 240 1700 = some (.iconst 0, 1, 0, 0, 0) := by decide +kernel
set_option maxRecDepth 100000 in
theorem fe_240_1701 : am_fetch 240 1701 = some (.ireturn, 1, 8, 0, 0) := by decide +kernel
set_option maxRecDepth 100000 in
theorem fe_240_1702 : am_fetch 240 1702 = some (.aload_n 1, 1, 1, 0, 0) := by decide +kernel
set_option maxRecDepth 100000 in
theorem fe_240_1703 : am_fetch 240 1703 = some (.aload_n 0, 1, 1, 0, 0) := by decide +kernel
set_option maxRecDepth 100000 in
theorem fe_240_1704 : am_fetch 240 1704 = some (.iload 4, 2, 1, 0, 0) := by decide +kernel
set_option maxRecDepth 100000 in
theorem fe_240_1706 : am_fetch 240 1706 = some (.iconst 1, 1, 0, 0, 0) := by decide +kernel
set_option maxRecDepth 100000 in
theorem fe_240_1707 : am_fetch 240 1707 = some (.iadd, 1, 0, 0, 0) := by decide +kernel
set_option maxRecDepth 100000 in
theorem fe_240_1708 : am_fetch 240 1708 = some (.iaload, 1, 3, 0, 0) := by decide +kernel
set_option maxRecDepth 100000 in
theorem fe_240_1709 : am_fetch 240 1709 = some (.ifCond .eq 7, 3, 2, 1716, 0) := by decide +kernel
set_option maxRecDepth 100000 in
theorem fe_240_1712 : am_fetch 240 1712 = some (.iconst 1, 1, 0, 0, 0) := by decide +kernel
set_option maxRecDepth 100000 in
theorem fe_240_1713 : am_fetch 240 1713 = some (.goto 4, 3, 2, 1717, 0) := by decide +kernel
set_option maxRecDepth 100000 in
theorem fe_240_1716 : am_fetch 240 1716 = some (.iconst 0, 1, 0, 0, 0) := by decide +kernel
set_option maxRecDepth 100000 in
theorem fe_240_1717 : am_fetch 240 1717 = some (.invokevirtual 193, 3, 7, 238, 0) := by decide +kernel
set_option maxRecDepth 100000 in
theorem fe_240_1720 : am_fetch 240 1720 = some (.aload_n 2, 1, 1, 0, 0) := by decide +kernel
set_option maxRecDepth 100000 in
theorem fe_240_1721 : am_fetch 240 1721 = some (.aload_n 0, 1, 1, 0, 0) := by decide +kernel
set_option maxRecDepth 100000 in
theorem fe_240_1722 : am_fetch 240 1722 = some (.iload 4, 2, 1, 0, 0) := by decide +kernel
set_option maxRecDepth 100000 in
theorem fe_240_1724 : am_fetch 240 1724 = some (.iconst 1, 1, 0, 0, 0) := by decide +kernel
set_option maxRecDepth 100000 in
theorem fe_240_1725 : am_fetch 240 1725 = some (.iadd, 1, 0, 0, 0) := by decide +kernel
set_option maxRecDepth 100000 in
theorem fe_240_1726 : am_fetch 240 1726 = some (.iaload, 1, 3, 0, 0) := by decide +kernel
set_option maxRecDepth 100000 in
theorem fe_240_1727 : am_fetch 240 1727 = some (.ifCond .eq 7, 3, 2, 1734, 0) := by decide +kernel
set_option maxRecDepth 100000 in
theorem fe_240_1730 : am_fetch 240 1730 = some (.iconst 1, 1, 0, 0, 0) := by decide +kernel
set_option maxRecDepth 100000 in
theorem fe_240_1731 : am_fetch 240 1731 = some (.goto 4, 3, 2, 1735, 0) := by decide +kernel
set_option maxRecDepth 100000 in
theorem fe_240_1734 : am_fetch 240 1734 = some (.iconst 0, 1, 0, 0, 0) := by decide +kernel
set_option maxRecDepth 100000 in
theorem fe_240_1735 : am_fetch 240 1735 = some (.invokevirtual 197, 3, 7, 239, 0) := by decide +kernel
set_option maxRecDepth 100000 in
theorem fe_240_1738 : am_fetch 240 1738 = some (.if_icmp .eq 5, 3, 2, 1743, 0) := by decide +kernel
set_option maxRecDepth 100000 in
theorem fe_240_1741 : am_fetch 240 1741 = some (.iconst 0, 1, 0, 0, 0) := by decide +kernel
set_option maxRecDepth 100000 in
theorem fe_240_1742 : am_fetch 240 1742 = some (.ireturn, 1, 8, 0, 0) := by decide +kernel
set_option maxRecDepth 100000 in
theorem fe_240_1743 : am_fetch 240 1743 = some (.iinc 4 4, 3, 1, 0, 0) := by decide +kernel
set_option maxRecDepth 100000 in
theorem fe_240_1746 : am_fetch 240 1746 = some (.goto (-1723), 3, 2, 23, 0) := by decide +kernel
set_option maxRecDepth 100000 in
theorem fe_240_1749 : am_fetch 240 1749 = some (.iconst 1, 1, 0, 0, 0) := by decide +kernel
set_option maxRecDepth 100000 in
theorem fe_240_1750 : am_fetch 240 1750 = some (.ireturn, 1, 8, 0, 0) := by decide +kernel
theorem wr_25 {a1 : Int32} {D D1 : am_DD} {y : Int32} (h : fn_24 a1 D = some (y, 0, D1)) : ay_mc 25 [.ref 0, .int a1, .ref 329] D (some (.int 0)) (am_upd D1 329 0 y) 0 0 := by
  refine ay_mc_of (L := [some (.ref 0), some (.int a1), some (.ref 329), none]) rfl ?_
  refine ay_c_loc (pc := 0) fe_25_0 rfl ?_
  refine ay_c_stk (pc := 1) (S' := [.int 0, .ref 329]) fe_25_1 rfl ?_
  refine ay_c_loc (pc := 2) fe_25_2 rfl ?_
  refine ay_c_loc (pc := 3) fe_25_3 rfl ?_
  refine ay_c_call (pc := 4) (w := some (.int y)) fe_25_4 (ay_args [.ref 0, .int a1] [.int 0, .ref 329] rfl rfl (Nat.le_of_ble_eq_true rfl) (Nat.le_of_ble_eq_true rfl)) (ay_rcvV at_0 rfl) (ev_24 h) ?_
  refine ay_c_stk (pc := 7) (S' := [.long y.toInt64, .int 0, .ref 329]) fe_25_7 rfl ?_
  refine ay_c_las (pc := 8) fe_25_8 ?_
  refine ay_c_br (pc := 9) (pc' := 18) fe_25_9 rfl ?_
  refine ay_c_stk (pc := 18) (S' := [.int 0]) fe_25_18 rfl ?_
  exact ay_c_iret fe_25_19 rfl rfl
theorem wr_25_0 {a1 : Int32} {D D1 : am_DD} {y : Int32} (h : fn_24 a1 D = some (y, 1, D1)) : ay_mc 25 [.ref 0, .int a1, .ref 329] D (some (.int 1)) D1 1 6 := by
  refine ay_mc_of (L := [some (.ref 0), some (.int a1), some (.ref 329), none]) rfl ?_
  refine ay_c_loc (pc := 0) fe_25_0 rfl ?_
  refine ay_c_stk (pc := 1) (S' := [.int 0, .ref 329]) fe_25_1 rfl ?_
  refine ay_c_loc (pc := 2) fe_25_2 rfl ?_
  refine ay_c_loc (pc := 3) fe_25_3 rfl ?_
  refine ay_c_callX (pc := 4) (t := 13) (k := 3) (c := 0) (s := 0) fe_25_4 (ay_args [.ref 0, .int a1] [.int 0, .ref 329] rfl rfl (Nat.le_of_ble_eq_true rfl) (Nat.le_of_ble_eq_true rfl)) (ay_rcvV at_0 rfl) (ev_24 h) (by decide +kernel) rfl ?_
  refine ay_c_stk (pc := 13) (S' := [.int 1]) fe_25_13 rfl ?_
  exact ay_c_iret fe_25_14 rfl rfl
theorem wr_25_1 {a1 : Int32} {D D1 : am_DD} {y : Int32} (h : fn_24 a1 D = some (y, 2, D1)) : ay_mc 25 [.ref 0, .int a1, .ref 329] D (some (.int 2)) D1 1 6 := by
  refine ay_mc_of (L := [some (.ref 0), some (.int a1), some (.ref 329), none]) rfl ?_
  refine ay_c_loc (pc := 0) fe_25_0 rfl ?_
  refine ay_c_stk (pc := 1) (S' := [.int 0, .ref 329]) fe_25_1 rfl ?_
  refine ay_c_loc (pc := 2) fe_25_2 rfl ?_
  refine ay_c_loc (pc := 3) fe_25_3 rfl ?_
  refine ay_c_callX (pc := 4) (t := 16) (k := 3) (c := 0) (s := 0) fe_25_4 (ay_args [.ref 0, .int a1] [.int 0, .ref 329] rfl rfl (Nat.le_of_ble_eq_true rfl) (Nat.le_of_ble_eq_true rfl)) (ay_rcvV at_0 rfl) (ev_24 h) (by decide +kernel) rfl ?_
  refine ay_c_stk (pc := 16) (S' := [.int 2]) fe_25_16 rfl ?_
  exact ay_c_iret fe_25_17 rfl rfl
theorem wr_43 {a1 a2 a3 : Int32} {D D1 : am_DD} {y : Int32} (h : fn_42 a1 a2 a3 D = some (y, 0, D1)) : ay_mc 43 [.ref 0, .int a1, .int a2, .int a3, .ref 329] D (some (.int 0)) (am_upd D1 329 0 y) 0 0 := by
  refine ay_mc_of (L := [some (.ref 0), some (.int a1), some (.int a2), some (.int a3), some (.ref 329), none]) rfl ?_
  refine ay_c_loc (pc := 0) fe_43_0 rfl ?_
  refine ay_c_stk (pc := 2) (S' := [.int 0, .ref 329]) fe_43_2 rfl ?_
  refine ay_c_loc (pc := 3) fe_43_3 rfl ?_
  refine ay_c_loc (pc := 4) fe_43_4 rfl ?_
  refine ay_c_loc (pc := 5) fe_43_5 rfl ?_
  refine ay_c_loc (pc := 6) fe_43_6 rfl ?_
  refine ay_c_call (pc := 7) (w := some (.int y)) fe_43_7 (ay_args [.ref 0, .int a1, .int a2, .int a3] [.int 0, .ref 329] rfl rfl (Nat.le_of_ble_eq_true rfl) (Nat.le_of_ble_eq_true rfl)) (ay_rcvV at_0 rfl) (ev_42 h) ?_
  refine ay_c_stk (pc := 10) (S' := [.long y.toInt64, .int 0, .ref 329]) fe_43_10 rfl ?_
  refine ay_c_las (pc := 11) fe_43_11 ?_
  refine ay_c_br (pc := 12) (pc' := 23) fe_43_12 rfl ?_
  refine ay_c_stk (pc := 23) (S' := [.int 0]) fe_43_23 rfl ?_
  exact ay_c_iret fe_43_24 rfl rfl
theorem wr_43_0 {a1 a2 a3 : Int32} {D D1 : am_DD} {y : Int32} (h : fn_42 a1 a2 a3 D = some (y, 1, D1)) : ay_mc 43 [.ref 0, .int a1, .int a2, .int a3, .ref 329] D (some (.int 2)) D1 1 6 := by
  refine ay_mc_of (L := [some (.ref 0), some (.int a1), some (.int a2), some (.int a3), some (.ref 329), none]) rfl ?_
  refine ay_c_loc (pc := 0) fe_43_0 rfl ?_
  refine ay_c_stk (pc := 2) (S' := [.int 0, .ref 329]) fe_43_2 rfl ?_
  refine ay_c_loc (pc := 3) fe_43_3 rfl ?_
  refine ay_c_loc (pc := 4) fe_43_4 rfl ?_
  refine ay_c_loc (pc := 5) fe_43_5 rfl ?_
  refine ay_c_loc (pc := 6) fe_43_6 rfl ?_
  refine ay_c_callX (pc := 7) (t := 21) (k := 5) (c := 0) (s := 0) fe_43_7 (ay_args [.ref 0, .int a1, .int a2, .int a3] [.int 0, .ref 329] rfl rfl (Nat.le_of_ble_eq_true rfl) (Nat.le_of_ble_eq_true rfl)) (ay_rcvV at_0 rfl) (ev_42 h) (by decide +kernel) rfl ?_
  refine ay_c_stk (pc := 21) (S' := [.int 2]) fe_43_21 rfl ?_
  exact ay_c_iret fe_43_22 rfl rfl
theorem wr_43_2 {a1 a2 a3 : Int32} {D D1 : am_DD} {y : Int32} (h : fn_42 a1 a2 a3 D = some (y, 3, D1)) : ay_mc 43 [.ref 0, .int a1, .int a2, .int a3, .ref 329] D (some (.int 1)) D1 1 6 := by
  refine ay_mc_of (L := [some (.ref 0), some (.int a1), some (.int a2), some (.int a3), some (.ref 329), none]) rfl ?_
  refine ay_c_loc (pc := 0) fe_43_0 rfl ?_
  refine ay_c_stk (pc := 2) (S' := [.int 0, .ref 329]) fe_43_2 rfl ?_
  refine ay_c_loc (pc := 3) fe_43_3 rfl ?_
  refine ay_c_loc (pc := 4) fe_43_4 rfl ?_
  refine ay_c_loc (pc := 5) fe_43_5 rfl ?_
  refine ay_c_loc (pc := 6) fe_43_6 rfl ?_
  refine ay_c_callX (pc := 7) (t := 17) (k := 5) (c := 0) (s := 0) fe_43_7 (ay_args [.ref 0, .int a1, .int a2, .int a3] [.int 0, .ref 329] rfl rfl (Nat.le_of_ble_eq_true rfl) (Nat.le_of_ble_eq_true rfl)) (ay_rcvV at_0 rfl) (ev_42 h) (by decide +kernel) rfl ?_
  refine ay_c_stk (pc := 17) (S' := [.int 1]) fe_43_17 rfl ?_
  exact ay_c_iret fe_43_18 rfl rfl
theorem wr_53 {a1 a2 : Int32} {D D1 : am_DD} {y : Int32} (h : fn_52 a1 a2 D = some (y, 0, D1)) : ay_mc 53 [.ref 0, .int a1, .int a2, .ref 329] D (some (.int 0)) (am_upd D1 329 0 y) 0 0 := by
  refine ay_mc_of (L := [some (.ref 0), some (.int a1), some (.int a2), some (.ref 329), none]) rfl ?_
  refine ay_c_loc (pc := 0) fe_53_0 rfl ?_
  refine ay_c_stk (pc := 1) (S' := [.int 0, .ref 329]) fe_53_1 rfl ?_
  refine ay_c_loc (pc := 2) fe_53_2 rfl ?_
  refine ay_c_loc (pc := 3) fe_53_3 rfl ?_
  refine ay_c_loc (pc := 4) fe_53_4 rfl ?_
  refine ay_c_call (pc := 5) (w := some (.int y)) fe_53_5 (ay_args [.ref 0, .int a1, .int a2] [.int 0, .ref 329] rfl rfl (Nat.le_of_ble_eq_true rfl) (Nat.le_of_ble_eq_true rfl)) (ay_rcvV at_0 rfl) (ev_52 h) ?_
  refine ay_c_stk (pc := 8) (S' := [.long y.toInt64, .int 0, .ref 329]) fe_53_8 rfl ?_
  refine ay_c_las (pc := 9) fe_53_9 ?_
  refine ay_c_br (pc := 10) (pc' := 21) fe_53_10 rfl ?_
  refine ay_c_stk (pc := 21) (S' := [.int 0]) fe_53_21 rfl ?_
  exact ay_c_iret fe_53_22 rfl rfl
theorem wr_53_0 {a1 a2 : Int32} {D D1 : am_DD} {y : Int32} (h : fn_52 a1 a2 D = some (y, 1, D1)) : ay_mc 53 [.ref 0, .int a1, .int a2, .ref 329] D (some (.int 2)) D1 1 6 := by
  refine ay_mc_of (L := [some (.ref 0), some (.int a1), some (.int a2), some (.ref 329), none]) rfl ?_
  refine ay_c_loc (pc := 0) fe_53_0 rfl ?_
  refine ay_c_stk (pc := 1) (S' := [.int 0, .ref 329]) fe_53_1 rfl ?_
  refine ay_c_loc (pc := 2) fe_53_2 rfl ?_
  refine ay_c_loc (pc := 3) fe_53_3 rfl ?_
  refine ay_c_loc (pc := 4) fe_53_4 rfl ?_
  refine ay_c_callX (pc := 5) (t := 19) (k := 4) (c := 0) (s := 0) fe_53_5 (ay_args [.ref 0, .int a1, .int a2] [.int 0, .ref 329] rfl rfl (Nat.le_of_ble_eq_true rfl) (Nat.le_of_ble_eq_true rfl)) (ay_rcvV at_0 rfl) (ev_52 h) (by decide +kernel) rfl ?_
  refine ay_c_stk (pc := 19) (S' := [.int 2]) fe_53_19 rfl ?_
  exact ay_c_iret fe_53_20 rfl rfl
theorem wr_53_2 {a1 a2 : Int32} {D D1 : am_DD} {y : Int32} (h : fn_52 a1 a2 D = some (y, 3, D1)) : ay_mc 53 [.ref 0, .int a1, .int a2, .ref 329] D (some (.int 1)) D1 1 6 := by
  refine ay_mc_of (L := [some (.ref 0), some (.int a1), some (.int a2), some (.ref 329), none]) rfl ?_
  refine ay_c_loc (pc := 0) fe_53_0 rfl ?_
  refine ay_c_stk (pc := 1) (S' := [.int 0, .ref 329]) fe_53_1 rfl ?_
  refine ay_c_loc (pc := 2) fe_53_2 rfl ?_
  refine ay_c_loc (pc := 3) fe_53_3 rfl ?_
  refine ay_c_loc (pc := 4) fe_53_4 rfl ?_
  refine ay_c_callX (pc := 5) (t := 15) (k := 4) (c := 0) (s := 0) fe_53_5 (ay_args [.ref 0, .int a1, .int a2] [.int 0, .ref 329] rfl rfl (Nat.le_of_ble_eq_true rfl) (Nat.le_of_ble_eq_true rfl)) (ay_rcvV at_0 rfl) (ev_52 h) (by decide +kernel) rfl ?_
  refine ay_c_stk (pc := 15) (S' := [.int 1]) fe_53_15 rfl ?_
  exact ay_c_iret fe_53_16 rfl rfl
theorem wr_58 {a1 : Int32} {D D1 : am_DD} {y : Int32} (h : fn_57 a1 D = some (y, 0, D1)) : ay_mc 58 [.ref 0, .int a1, .ref 329] D (some (.int 0)) (am_upd D1 329 0 y) 0 0 := by
  refine ay_mc_of (L := [some (.ref 0), some (.int a1), some (.ref 329), none]) rfl ?_
  refine ay_c_loc (pc := 0) fe_58_0 rfl ?_
  refine ay_c_stk (pc := 1) (S' := [.int 0, .ref 329]) fe_58_1 rfl ?_
  refine ay_c_loc (pc := 2) fe_58_2 rfl ?_
  refine ay_c_loc (pc := 3) fe_58_3 rfl ?_
  refine ay_c_call (pc := 4) (w := some (.int y)) fe_58_4 (ay_args [.ref 0, .int a1] [.int 0, .ref 329] rfl rfl (Nat.le_of_ble_eq_true rfl) (Nat.le_of_ble_eq_true rfl)) (ay_rcvV at_0 rfl) (ev_57 h) ?_
  refine ay_c_stk (pc := 7) (S' := [.long y.toInt64, .int 0, .ref 329]) fe_58_7 rfl ?_
  refine ay_c_las (pc := 8) fe_58_8 ?_
  refine ay_c_br (pc := 9) (pc' := 15) fe_58_9 rfl ?_
  refine ay_c_stk (pc := 15) (S' := [.int 0]) fe_58_15 rfl ?_
  exact ay_c_iret fe_58_16 rfl rfl
theorem wr_58_2 {a1 : Int32} {D D1 : am_DD} {y : Int32} (h : fn_57 a1 D = some (y, 3, D1)) : ay_mc 58 [.ref 0, .int a1, .ref 329] D (some (.int 1)) D1 1 6 := by
  refine ay_mc_of (L := [some (.ref 0), some (.int a1), some (.ref 329), none]) rfl ?_
  refine ay_c_loc (pc := 0) fe_58_0 rfl ?_
  refine ay_c_stk (pc := 1) (S' := [.int 0, .ref 329]) fe_58_1 rfl ?_
  refine ay_c_loc (pc := 2) fe_58_2 rfl ?_
  refine ay_c_loc (pc := 3) fe_58_3 rfl ?_
  refine ay_c_callX (pc := 4) (t := 13) (k := 3) (c := 0) (s := 0) fe_58_4 (ay_args [.ref 0, .int a1] [.int 0, .ref 329] rfl rfl (Nat.le_of_ble_eq_true rfl) (Nat.le_of_ble_eq_true rfl)) (ay_rcvV at_0 rfl) (ev_57 h) (by decide +kernel) rfl ?_
  refine ay_c_stk (pc := 13) (S' := [.int 1]) fe_58_13 rfl ?_
  exact ay_c_iret fe_58_14 rfl rfl
theorem wr_62 {a1 a2 : Int32} {D D1 : am_DD} {y : Int32} (h : fn_61 a1 a2 D = some (y, 0, D1)) : ay_mc 62 [.ref 0, .int a1, .int a2, .ref 329] D (some (.int 0)) (am_upd D1 329 0 y) 0 0 := by
  refine ay_mc_of (L := [some (.ref 0), some (.int a1), some (.int a2), some (.ref 329), none]) rfl ?_
  refine ay_c_loc (pc := 0) fe_62_0 rfl ?_
  refine ay_c_stk (pc := 1) (S' := [.int 0, .ref 329]) fe_62_1 rfl ?_
  refine ay_c_loc (pc := 2) fe_62_2 rfl ?_
  refine ay_c_loc (pc := 3) fe_62_3 rfl ?_
  refine ay_c_loc (pc := 4) fe_62_4 rfl ?_
  refine ay_c_call (pc := 5) (w := some (.int y)) fe_62_5 (ay_args [.ref 0, .int a1, .int a2] [.int 0, .ref 329] rfl rfl (Nat.le_of_ble_eq_true rfl) (Nat.le_of_ble_eq_true rfl)) (ay_rcvV at_0 rfl) (ev_61 h) ?_
  refine ay_c_stk (pc := 8) (S' := [.long y.toInt64, .int 0, .ref 329]) fe_62_8 rfl ?_
  refine ay_c_las (pc := 9) fe_62_9 ?_
  refine ay_c_br (pc := 10) (pc' := 21) fe_62_10 rfl ?_
  refine ay_c_stk (pc := 21) (S' := [.int 0]) fe_62_21 rfl ?_
  exact ay_c_iret fe_62_22 rfl rfl
theorem wr_62_0 {a1 a2 : Int32} {D D1 : am_DD} {y : Int32} (h : fn_61 a1 a2 D = some (y, 1, D1)) : ay_mc 62 [.ref 0, .int a1, .int a2, .ref 329] D (some (.int 2)) D1 1 6 := by
  refine ay_mc_of (L := [some (.ref 0), some (.int a1), some (.int a2), some (.ref 329), none]) rfl ?_
  refine ay_c_loc (pc := 0) fe_62_0 rfl ?_
  refine ay_c_stk (pc := 1) (S' := [.int 0, .ref 329]) fe_62_1 rfl ?_
  refine ay_c_loc (pc := 2) fe_62_2 rfl ?_
  refine ay_c_loc (pc := 3) fe_62_3 rfl ?_
  refine ay_c_loc (pc := 4) fe_62_4 rfl ?_
  refine ay_c_callX (pc := 5) (t := 19) (k := 4) (c := 0) (s := 0) fe_62_5 (ay_args [.ref 0, .int a1, .int a2] [.int 0, .ref 329] rfl rfl (Nat.le_of_ble_eq_true rfl) (Nat.le_of_ble_eq_true rfl)) (ay_rcvV at_0 rfl) (ev_61 h) (by decide +kernel) rfl ?_
  refine ay_c_stk (pc := 19) (S' := [.int 2]) fe_62_19 rfl ?_
  exact ay_c_iret fe_62_20 rfl rfl
theorem wr_62_2 {a1 a2 : Int32} {D D1 : am_DD} {y : Int32} (h : fn_61 a1 a2 D = some (y, 3, D1)) : ay_mc 62 [.ref 0, .int a1, .int a2, .ref 329] D (some (.int 1)) D1 1 6 := by
  refine ay_mc_of (L := [some (.ref 0), some (.int a1), some (.int a2), some (.ref 329), none]) rfl ?_
  refine ay_c_loc (pc := 0) fe_62_0 rfl ?_
  refine ay_c_stk (pc := 1) (S' := [.int 0, .ref 329]) fe_62_1 rfl ?_
  refine ay_c_loc (pc := 2) fe_62_2 rfl ?_
  refine ay_c_loc (pc := 3) fe_62_3 rfl ?_
  refine ay_c_loc (pc := 4) fe_62_4 rfl ?_
  refine ay_c_callX (pc := 5) (t := 15) (k := 4) (c := 0) (s := 0) fe_62_5 (ay_args [.ref 0, .int a1, .int a2] [.int 0, .ref 329] rfl rfl (Nat.le_of_ble_eq_true rfl) (Nat.le_of_ble_eq_true rfl)) (ay_rcvV at_0 rfl) (ev_61 h) (by decide +kernel) rfl ?_
  refine ay_c_stk (pc := 15) (S' := [.int 1]) fe_62_15 rfl ?_
  exact ay_c_iret fe_62_16 rfl rfl
theorem wr_67 {a1 : Int32} {D D1 : am_DD} {y : Int32} (h : fn_66 a1 D = some (y, 0, D1)) : ay_mc 67 [.ref 0, .int a1, .ref 329] D (some (.int 0)) (am_upd D1 329 0 y) 0 0 := by
  refine ay_mc_of (L := [some (.ref 0), some (.int a1), some (.ref 329), none]) rfl ?_
  refine ay_c_loc (pc := 0) fe_67_0 rfl ?_
  refine ay_c_stk (pc := 1) (S' := [.int 0, .ref 329]) fe_67_1 rfl ?_
  refine ay_c_loc (pc := 2) fe_67_2 rfl ?_
  refine ay_c_loc (pc := 3) fe_67_3 rfl ?_
  refine ay_c_call (pc := 4) (w := some (.int y)) fe_67_4 (ay_args [.ref 0, .int a1] [.int 0, .ref 329] rfl rfl (Nat.le_of_ble_eq_true rfl) (Nat.le_of_ble_eq_true rfl)) (ay_rcvV at_0 rfl) (ev_66 h) ?_
  refine ay_c_stk (pc := 7) (S' := [.long y.toInt64, .int 0, .ref 329]) fe_67_7 rfl ?_
  refine ay_c_las (pc := 8) fe_67_8 ?_
  refine ay_c_br (pc := 9) (pc' := 18) fe_67_9 rfl ?_
  refine ay_c_stk (pc := 18) (S' := [.int 0]) fe_67_18 rfl ?_
  exact ay_c_iret fe_67_19 rfl rfl
theorem wr_67_0 {a1 : Int32} {D D1 : am_DD} {y : Int32} (h : fn_66 a1 D = some (y, 1, D1)) : ay_mc 67 [.ref 0, .int a1, .ref 329] D (some (.int 1)) D1 1 6 := by
  refine ay_mc_of (L := [some (.ref 0), some (.int a1), some (.ref 329), none]) rfl ?_
  refine ay_c_loc (pc := 0) fe_67_0 rfl ?_
  refine ay_c_stk (pc := 1) (S' := [.int 0, .ref 329]) fe_67_1 rfl ?_
  refine ay_c_loc (pc := 2) fe_67_2 rfl ?_
  refine ay_c_loc (pc := 3) fe_67_3 rfl ?_
  refine ay_c_callX (pc := 4) (t := 13) (k := 3) (c := 0) (s := 0) fe_67_4 (ay_args [.ref 0, .int a1] [.int 0, .ref 329] rfl rfl (Nat.le_of_ble_eq_true rfl) (Nat.le_of_ble_eq_true rfl)) (ay_rcvV at_0 rfl) (ev_66 h) (by decide +kernel) rfl ?_
  refine ay_c_stk (pc := 13) (S' := [.int 1]) fe_67_13 rfl ?_
  exact ay_c_iret fe_67_14 rfl rfl
theorem wr_67_1 {a1 : Int32} {D D1 : am_DD} {y : Int32} (h : fn_66 a1 D = some (y, 2, D1)) : ay_mc 67 [.ref 0, .int a1, .ref 329] D (some (.int 2)) D1 1 6 := by
  refine ay_mc_of (L := [some (.ref 0), some (.int a1), some (.ref 329), none]) rfl ?_
  refine ay_c_loc (pc := 0) fe_67_0 rfl ?_
  refine ay_c_stk (pc := 1) (S' := [.int 0, .ref 329]) fe_67_1 rfl ?_
  refine ay_c_loc (pc := 2) fe_67_2 rfl ?_
  refine ay_c_loc (pc := 3) fe_67_3 rfl ?_
  refine ay_c_callX (pc := 4) (t := 16) (k := 3) (c := 0) (s := 0) fe_67_4 (ay_args [.ref 0, .int a1] [.int 0, .ref 329] rfl rfl (Nat.le_of_ble_eq_true rfl) (Nat.le_of_ble_eq_true rfl)) (ay_rcvV at_0 rfl) (ev_66 h) (by decide +kernel) rfl ?_
  refine ay_c_stk (pc := 16) (S' := [.int 2]) fe_67_16 rfl ?_
  exact ay_c_iret fe_67_17 rfl rfl
theorem wr_82 {a1 : Int32} {D D1 : am_DD} {y : Int32} (h : fn_81 a1 D = some (y, 0, D1)) : ay_mc 82 [.ref 0, .int a1, .ref 329] D (some (.int 0)) (am_upd D1 329 0 y) 0 0 := by
  refine ay_mc_of (L := [some (.ref 0), some (.int a1), some (.ref 329), none]) rfl ?_
  refine ay_c_loc (pc := 0) fe_82_0 rfl ?_
  refine ay_c_stk (pc := 1) (S' := [.int 0, .ref 329]) fe_82_1 rfl ?_
  refine ay_c_loc (pc := 2) fe_82_2 rfl ?_
  refine ay_c_loc (pc := 3) fe_82_3 rfl ?_
  refine ay_c_call (pc := 4) (w := some (.int y)) fe_82_4 (ay_args [.ref 0, .int a1] [.int 0, .ref 329] rfl rfl (Nat.le_of_ble_eq_true rfl) (Nat.le_of_ble_eq_true rfl)) (ay_rcvV at_0 rfl) (ev_81 h) ?_
  refine ay_c_stk (pc := 7) (S' := [.long y.toInt64, .int 0, .ref 329]) fe_82_7 rfl ?_
  refine ay_c_las (pc := 8) fe_82_8 ?_
  refine ay_c_br (pc := 9) (pc' := 15) fe_82_9 rfl ?_
  refine ay_c_stk (pc := 15) (S' := [.int 0]) fe_82_15 rfl ?_
  exact ay_c_iret fe_82_16 rfl rfl
theorem wr_82_0 {a1 : Int32} {D D1 : am_DD} {y : Int32} (h : fn_81 a1 D = some (y, 1, D1)) : ay_mc 82 [.ref 0, .int a1, .ref 329] D (some (.int 1)) D1 1 6 := by
  refine ay_mc_of (L := [some (.ref 0), some (.int a1), some (.ref 329), none]) rfl ?_
  refine ay_c_loc (pc := 0) fe_82_0 rfl ?_
  refine ay_c_stk (pc := 1) (S' := [.int 0, .ref 329]) fe_82_1 rfl ?_
  refine ay_c_loc (pc := 2) fe_82_2 rfl ?_
  refine ay_c_loc (pc := 3) fe_82_3 rfl ?_
  refine ay_c_callX (pc := 4) (t := 13) (k := 3) (c := 0) (s := 0) fe_82_4 (ay_args [.ref 0, .int a1] [.int 0, .ref 329] rfl rfl (Nat.le_of_ble_eq_true rfl) (Nat.le_of_ble_eq_true rfl)) (ay_rcvV at_0 rfl) (ev_81 h) (by decide +kernel) rfl ?_
  refine ay_c_stk (pc := 13) (S' := [.int 1]) fe_82_13 rfl ?_
  exact ay_c_iret fe_82_14 rfl rfl
theorem wr_94 {a1 : Int32} {D D1 : am_DD} {y : Int32} (h : fn_93 a1 D = some (y, 0, D1)) : ay_mc 94 [.ref 0, .int a1, .ref 329] D (some (.int 0)) (am_upd D1 329 0 y) 0 0 := by
  refine ay_mc_of (L := [some (.ref 0), some (.int a1), some (.ref 329), none]) rfl ?_
  refine ay_c_loc (pc := 0) fe_94_0 rfl ?_
  refine ay_c_stk (pc := 1) (S' := [.int 0, .ref 329]) fe_94_1 rfl ?_
  refine ay_c_loc (pc := 2) fe_94_2 rfl ?_
  refine ay_c_loc (pc := 3) fe_94_3 rfl ?_
  refine ay_c_call (pc := 4) (w := some (.int y)) fe_94_4 (ay_args [.ref 0, .int a1] [.int 0, .ref 329] rfl rfl (Nat.le_of_ble_eq_true rfl) (Nat.le_of_ble_eq_true rfl)) (ay_rcvV at_0 rfl) (ev_93 h) ?_
  refine ay_c_stk (pc := 7) (S' := [.long y.toInt64, .int 0, .ref 329]) fe_94_7 rfl ?_
  refine ay_c_las (pc := 8) fe_94_8 ?_
  refine ay_c_br (pc := 9) (pc' := 15) fe_94_9 rfl ?_
  refine ay_c_stk (pc := 15) (S' := [.int 0]) fe_94_15 rfl ?_
  exact ay_c_iret fe_94_16 rfl rfl
theorem wr_94_2 {a1 : Int32} {D D1 : am_DD} {y : Int32} (h : fn_93 a1 D = some (y, 3, D1)) : ay_mc 94 [.ref 0, .int a1, .ref 329] D (some (.int 1)) D1 1 6 := by
  refine ay_mc_of (L := [some (.ref 0), some (.int a1), some (.ref 329), none]) rfl ?_
  refine ay_c_loc (pc := 0) fe_94_0 rfl ?_
  refine ay_c_stk (pc := 1) (S' := [.int 0, .ref 329]) fe_94_1 rfl ?_
  refine ay_c_loc (pc := 2) fe_94_2 rfl ?_
  refine ay_c_loc (pc := 3) fe_94_3 rfl ?_
  refine ay_c_callX (pc := 4) (t := 13) (k := 3) (c := 0) (s := 0) fe_94_4 (ay_args [.ref 0, .int a1] [.int 0, .ref 329] rfl rfl (Nat.le_of_ble_eq_true rfl) (Nat.le_of_ble_eq_true rfl)) (ay_rcvV at_0 rfl) (ev_93 h) (by decide +kernel) rfl ?_
  refine ay_c_stk (pc := 13) (S' := [.int 1]) fe_94_13 rfl ?_
  exact ay_c_iret fe_94_14 rfl rfl
theorem wr_99 {a1 : Int32} {D D1 : am_DD} {y : Int32} (h : fn_98 a1 D = some (y, 0, D1)) : ay_mc 99 [.ref 0, .int a1, .ref 329] D (some (.int 0)) (am_upd D1 329 0 y) 0 0 := by
  refine ay_mc_of (L := [some (.ref 0), some (.int a1), some (.ref 329), none]) rfl ?_
  refine ay_c_loc (pc := 0) fe_99_0 rfl ?_
  refine ay_c_stk (pc := 1) (S' := [.int 0, .ref 329]) fe_99_1 rfl ?_
  refine ay_c_loc (pc := 2) fe_99_2 rfl ?_
  refine ay_c_loc (pc := 3) fe_99_3 rfl ?_
  refine ay_c_call (pc := 4) (w := some (.int y)) fe_99_4 (ay_args [.ref 0, .int a1] [.int 0, .ref 329] rfl rfl (Nat.le_of_ble_eq_true rfl) (Nat.le_of_ble_eq_true rfl)) (ay_rcvV at_0 rfl) (ev_98 h) ?_
  refine ay_c_stk (pc := 7) (S' := [.long y.toInt64, .int 0, .ref 329]) fe_99_7 rfl ?_
  refine ay_c_las (pc := 8) fe_99_8 ?_
  refine ay_c_br (pc := 9) (pc' := 18) fe_99_9 rfl ?_
  refine ay_c_stk (pc := 18) (S' := [.int 0]) fe_99_18 rfl ?_
  exact ay_c_iret fe_99_19 rfl rfl
theorem wr_99_0 {a1 : Int32} {D D1 : am_DD} {y : Int32} (h : fn_98 a1 D = some (y, 1, D1)) : ay_mc 99 [.ref 0, .int a1, .ref 329] D (some (.int 1)) D1 1 6 := by
  refine ay_mc_of (L := [some (.ref 0), some (.int a1), some (.ref 329), none]) rfl ?_
  refine ay_c_loc (pc := 0) fe_99_0 rfl ?_
  refine ay_c_stk (pc := 1) (S' := [.int 0, .ref 329]) fe_99_1 rfl ?_
  refine ay_c_loc (pc := 2) fe_99_2 rfl ?_
  refine ay_c_loc (pc := 3) fe_99_3 rfl ?_
  refine ay_c_callX (pc := 4) (t := 13) (k := 3) (c := 0) (s := 0) fe_99_4 (ay_args [.ref 0, .int a1] [.int 0, .ref 329] rfl rfl (Nat.le_of_ble_eq_true rfl) (Nat.le_of_ble_eq_true rfl)) (ay_rcvV at_0 rfl) (ev_98 h) (by decide +kernel) rfl ?_
  refine ay_c_stk (pc := 13) (S' := [.int 1]) fe_99_13 rfl ?_
  exact ay_c_iret fe_99_14 rfl rfl
theorem wr_99_1 {a1 : Int32} {D D1 : am_DD} {y : Int32} (h : fn_98 a1 D = some (y, 2, D1)) : ay_mc 99 [.ref 0, .int a1, .ref 329] D (some (.int 2)) D1 1 6 := by
  refine ay_mc_of (L := [some (.ref 0), some (.int a1), some (.ref 329), none]) rfl ?_
  refine ay_c_loc (pc := 0) fe_99_0 rfl ?_
  refine ay_c_stk (pc := 1) (S' := [.int 0, .ref 329]) fe_99_1 rfl ?_
  refine ay_c_loc (pc := 2) fe_99_2 rfl ?_
  refine ay_c_loc (pc := 3) fe_99_3 rfl ?_
  refine ay_c_callX (pc := 4) (t := 16) (k := 3) (c := 0) (s := 0) fe_99_4 (ay_args [.ref 0, .int a1] [.int 0, .ref 329] rfl rfl (Nat.le_of_ble_eq_true rfl) (Nat.le_of_ble_eq_true rfl)) (ay_rcvV at_0 rfl) (ev_98 h) (by decide +kernel) rfl ?_
  refine ay_c_stk (pc := 16) (S' := [.int 2]) fe_99_16 rfl ?_
  exact ay_c_iret fe_99_17 rfl rfl
theorem wr_137 {D D1 : am_DD} {y : Int32} (h : fn_136  D = some (y, 0, D1)) : ay_mc 137 [.ref 0, .ref 329] D (some (.int 0)) (am_upd D1 329 0 y) 0 0 := by
  refine ay_mc_of (L := [some (.ref 0), some (.ref 329), none]) rfl ?_
  refine ay_c_loc (pc := 0) fe_137_0 rfl ?_
  refine ay_c_stk (pc := 1) (S' := [.int 0, .ref 329]) fe_137_1 rfl ?_
  refine ay_c_loc (pc := 2) fe_137_2 rfl ?_
  refine ay_c_call (pc := 3) (w := some (.int y)) fe_137_3 (ay_args [.ref 0] [.int 0, .ref 329] rfl rfl (Nat.le_of_ble_eq_true rfl) (Nat.le_of_ble_eq_true rfl)) (ay_rcvV at_0 rfl) (ev_136 h) ?_
  refine ay_c_stk (pc := 6) (S' := [.long y.toInt64, .int 0, .ref 329]) fe_137_6 rfl ?_
  refine ay_c_las (pc := 7) fe_137_7 ?_
  refine ay_c_br (pc := 8) (pc' := 14) fe_137_8 rfl ?_
  refine ay_c_stk (pc := 14) (S' := [.int 0]) fe_137_14 rfl ?_
  exact ay_c_iret fe_137_15 rfl rfl
theorem wr_137_0 {D D1 : am_DD} {y : Int32} (h : fn_136  D = some (y, 1, D1)) : ay_mc 137 [.ref 0, .ref 329] D (some (.int 1)) D1 1 6 := by
  refine ay_mc_of (L := [some (.ref 0), some (.ref 329), none]) rfl ?_
  refine ay_c_loc (pc := 0) fe_137_0 rfl ?_
  refine ay_c_stk (pc := 1) (S' := [.int 0, .ref 329]) fe_137_1 rfl ?_
  refine ay_c_loc (pc := 2) fe_137_2 rfl ?_
  refine ay_c_callX (pc := 3) (t := 12) (k := 2) (c := 0) (s := 0) fe_137_3 (ay_args [.ref 0] [.int 0, .ref 329] rfl rfl (Nat.le_of_ble_eq_true rfl) (Nat.le_of_ble_eq_true rfl)) (ay_rcvV at_0 rfl) (ev_136 h) (by decide +kernel) rfl ?_
  refine ay_c_stk (pc := 12) (S' := [.int 1]) fe_137_12 rfl ?_
  exact ay_c_iret fe_137_13 rfl rfl
theorem wr_143 {D D1 : am_DD} {y : Int32} (h : fn_142  D = some (y, 0, D1)) : ay_mc 143 [.ref 0, .ref 329] D (some (.int 0)) (am_upd D1 329 0 y) 0 0 := by
  refine ay_mc_of (L := [some (.ref 0), some (.ref 329), none]) rfl ?_
  refine ay_c_loc (pc := 0) fe_143_0 rfl ?_
  refine ay_c_stk (pc := 1) (S' := [.int 0, .ref 329]) fe_143_1 rfl ?_
  refine ay_c_loc (pc := 2) fe_143_2 rfl ?_
  refine ay_c_call (pc := 3) (w := some (.int y)) fe_143_3 (ay_args [.ref 0] [.int 0, .ref 329] rfl rfl (Nat.le_of_ble_eq_true rfl) (Nat.le_of_ble_eq_true rfl)) (ay_rcvV at_0 rfl) (ev_142 h) ?_
  refine ay_c_stk (pc := 6) (S' := [.long y.toInt64, .int 0, .ref 329]) fe_143_6 rfl ?_
  refine ay_c_las (pc := 7) fe_143_7 ?_
  refine ay_c_br (pc := 8) (pc' := 14) fe_143_8 rfl ?_
  refine ay_c_stk (pc := 14) (S' := [.int 0]) fe_143_14 rfl ?_
  exact ay_c_iret fe_143_15 rfl rfl
theorem wr_143_1 {D D1 : am_DD} {y : Int32} (h : fn_142  D = some (y, 2, D1)) : ay_mc 143 [.ref 0, .ref 329] D (some (.int 1)) D1 1 6 := by
  refine ay_mc_of (L := [some (.ref 0), some (.ref 329), none]) rfl ?_
  refine ay_c_loc (pc := 0) fe_143_0 rfl ?_
  refine ay_c_stk (pc := 1) (S' := [.int 0, .ref 329]) fe_143_1 rfl ?_
  refine ay_c_loc (pc := 2) fe_143_2 rfl ?_
  refine ay_c_callX (pc := 3) (t := 12) (k := 2) (c := 0) (s := 0) fe_143_3 (ay_args [.ref 0] [.int 0, .ref 329] rfl rfl (Nat.le_of_ble_eq_true rfl) (Nat.le_of_ble_eq_true rfl)) (ay_rcvV at_0 rfl) (ev_142 h) (by decide +kernel) rfl ?_
  refine ay_c_stk (pc := 12) (S' := [.int 1]) fe_143_12 rfl ?_
  exact ay_c_iret fe_143_13 rfl rfl
theorem wr_147 {a1 : Int32} {D D1 : am_DD} {y : Int32} (h : fn_146 a1 D = some (y, 0, D1)) : ay_mc 147 [.ref 0, .int a1, .ref 329] D (some (.int 0)) (am_upd D1 329 0 y) 0 0 := by
  refine ay_mc_of (L := [some (.ref 0), some (.int a1), some (.ref 329), none]) rfl ?_
  refine ay_c_loc (pc := 0) fe_147_0 rfl ?_
  refine ay_c_stk (pc := 1) (S' := [.int 0, .ref 329]) fe_147_1 rfl ?_
  refine ay_c_loc (pc := 2) fe_147_2 rfl ?_
  refine ay_c_loc (pc := 3) fe_147_3 rfl ?_
  refine ay_c_call (pc := 4) (w := some (.int y)) fe_147_4 (ay_args [.ref 0, .int a1] [.int 0, .ref 329] rfl rfl (Nat.le_of_ble_eq_true rfl) (Nat.le_of_ble_eq_true rfl)) (ay_rcvV at_0 rfl) (ev_146 h) ?_
  refine ay_c_stk (pc := 7) (S' := [.long y.toInt64, .int 0, .ref 329]) fe_147_7 rfl ?_
  refine ay_c_las (pc := 8) fe_147_8 ?_
  refine ay_c_br (pc := 9) (pc' := 15) fe_147_9 rfl ?_
  refine ay_c_stk (pc := 15) (S' := [.int 0]) fe_147_15 rfl ?_
  exact ay_c_iret fe_147_16 rfl rfl
theorem wr_147_0 {a1 : Int32} {D D1 : am_DD} {y : Int32} (h : fn_146 a1 D = some (y, 1, D1)) : ay_mc 147 [.ref 0, .int a1, .ref 329] D (some (.int 1)) D1 1 6 := by
  refine ay_mc_of (L := [some (.ref 0), some (.int a1), some (.ref 329), none]) rfl ?_
  refine ay_c_loc (pc := 0) fe_147_0 rfl ?_
  refine ay_c_stk (pc := 1) (S' := [.int 0, .ref 329]) fe_147_1 rfl ?_
  refine ay_c_loc (pc := 2) fe_147_2 rfl ?_
  refine ay_c_loc (pc := 3) fe_147_3 rfl ?_
  refine ay_c_callX (pc := 4) (t := 13) (k := 3) (c := 0) (s := 0) fe_147_4 (ay_args [.ref 0, .int a1] [.int 0, .ref 329] rfl rfl (Nat.le_of_ble_eq_true rfl) (Nat.le_of_ble_eq_true rfl)) (ay_rcvV at_0 rfl) (ev_146 h) (by decide +kernel) rfl ?_
  refine ay_c_stk (pc := 13) (S' := [.int 1]) fe_147_13 rfl ?_
  exact ay_c_iret fe_147_14 rfl rfl
theorem wr_152 {a1 : Int32} {D D1 : am_DD} {y : Int32} (h : fn_151 a1 D = some (y, 0, D1)) : ay_mc 152 [.ref 0, .int a1, .ref 329] D (some (.int 0)) (am_upd D1 329 0 y) 0 0 := by
  refine ay_mc_of (L := [some (.ref 0), some (.int a1), some (.ref 329), none]) rfl ?_
  refine ay_c_loc (pc := 0) fe_152_0 rfl ?_
  refine ay_c_stk (pc := 1) (S' := [.int 0, .ref 329]) fe_152_1 rfl ?_
  refine ay_c_loc (pc := 2) fe_152_2 rfl ?_
  refine ay_c_loc (pc := 3) fe_152_3 rfl ?_
  refine ay_c_call (pc := 4) (w := some (.int y)) fe_152_4 (ay_args [.ref 0, .int a1] [.int 0, .ref 329] rfl rfl (Nat.le_of_ble_eq_true rfl) (Nat.le_of_ble_eq_true rfl)) (ay_rcvV at_0 rfl) (ev_151 h) ?_
  refine ay_c_stk (pc := 7) (S' := [.long y.toInt64, .int 0, .ref 329]) fe_152_7 rfl ?_
  refine ay_c_las (pc := 8) fe_152_8 ?_
  refine ay_c_br (pc := 9) (pc' := 18) fe_152_9 rfl ?_
  refine ay_c_stk (pc := 18) (S' := [.int 0]) fe_152_18 rfl ?_
  exact ay_c_iret fe_152_19 rfl rfl
theorem wr_152_0 {a1 : Int32} {D D1 : am_DD} {y : Int32} (h : fn_151 a1 D = some (y, 1, D1)) : ay_mc 152 [.ref 0, .int a1, .ref 329] D (some (.int 1)) D1 1 6 := by
  refine ay_mc_of (L := [some (.ref 0), some (.int a1), some (.ref 329), none]) rfl ?_
  refine ay_c_loc (pc := 0) fe_152_0 rfl ?_
  refine ay_c_stk (pc := 1) (S' := [.int 0, .ref 329]) fe_152_1 rfl ?_
  refine ay_c_loc (pc := 2) fe_152_2 rfl ?_
  refine ay_c_loc (pc := 3) fe_152_3 rfl ?_
  refine ay_c_callX (pc := 4) (t := 13) (k := 3) (c := 0) (s := 0) fe_152_4 (ay_args [.ref 0, .int a1] [.int 0, .ref 329] rfl rfl (Nat.le_of_ble_eq_true rfl) (Nat.le_of_ble_eq_true rfl)) (ay_rcvV at_0 rfl) (ev_151 h) (by decide +kernel) rfl ?_
  refine ay_c_stk (pc := 13) (S' := [.int 1]) fe_152_13 rfl ?_
  exact ay_c_iret fe_152_14 rfl rfl
theorem wr_152_1 {a1 : Int32} {D D1 : am_DD} {y : Int32} (h : fn_151 a1 D = some (y, 2, D1)) : ay_mc 152 [.ref 0, .int a1, .ref 329] D (some (.int 2)) D1 1 6 := by
  refine ay_mc_of (L := [some (.ref 0), some (.int a1), some (.ref 329), none]) rfl ?_
  refine ay_c_loc (pc := 0) fe_152_0 rfl ?_
  refine ay_c_stk (pc := 1) (S' := [.int 0, .ref 329]) fe_152_1 rfl ?_
  refine ay_c_loc (pc := 2) fe_152_2 rfl ?_
  refine ay_c_loc (pc := 3) fe_152_3 rfl ?_
  refine ay_c_callX (pc := 4) (t := 16) (k := 3) (c := 0) (s := 0) fe_152_4 (ay_args [.ref 0, .int a1] [.int 0, .ref 329] rfl rfl (Nat.le_of_ble_eq_true rfl) (Nat.le_of_ble_eq_true rfl)) (ay_rcvV at_0 rfl) (ev_151 h) (by decide +kernel) rfl ?_
  refine ay_c_stk (pc := 16) (S' := [.int 2]) fe_152_16 rfl ?_
  exact ay_c_iret fe_152_17 rfl rfl
theorem wr_157 {a1 a2 : Int32} {D D1 : am_DD} {y : Int32} (h : fn_156 a1 a2 D = some (y, 0, D1)) : ay_mc 157 [.ref 0, .int a1, .int a2, .ref 329] D (some (.int 0)) (am_upd D1 329 0 y) 0 0 := by
  refine ay_mc_of (L := [some (.ref 0), some (.int a1), some (.int a2), some (.ref 329), none]) rfl ?_
  refine ay_c_loc (pc := 0) fe_157_0 rfl ?_
  refine ay_c_stk (pc := 1) (S' := [.int 0, .ref 329]) fe_157_1 rfl ?_
  refine ay_c_loc (pc := 2) fe_157_2 rfl ?_
  refine ay_c_loc (pc := 3) fe_157_3 rfl ?_
  refine ay_c_loc (pc := 4) fe_157_4 rfl ?_
  refine ay_c_call (pc := 5) (w := some (.int y)) fe_157_5 (ay_args [.ref 0, .int a1, .int a2] [.int 0, .ref 329] rfl rfl (Nat.le_of_ble_eq_true rfl) (Nat.le_of_ble_eq_true rfl)) (ay_rcvV at_0 rfl) (ev_156 h) ?_
  refine ay_c_stk (pc := 8) (S' := [.long y.toInt64, .int 0, .ref 329]) fe_157_8 rfl ?_
  refine ay_c_las (pc := 9) fe_157_9 ?_
  refine ay_c_br (pc := 10) (pc' := 21) fe_157_10 rfl ?_
  refine ay_c_stk (pc := 21) (S' := [.int 0]) fe_157_21 rfl ?_
  exact ay_c_iret fe_157_22 rfl rfl
theorem wr_157_0 {a1 a2 : Int32} {D D1 : am_DD} {y : Int32} (h : fn_156 a1 a2 D = some (y, 1, D1)) : ay_mc 157 [.ref 0, .int a1, .int a2, .ref 329] D (some (.int 2)) D1 1 6 := by
  refine ay_mc_of (L := [some (.ref 0), some (.int a1), some (.int a2), some (.ref 329), none]) rfl ?_
  refine ay_c_loc (pc := 0) fe_157_0 rfl ?_
  refine ay_c_stk (pc := 1) (S' := [.int 0, .ref 329]) fe_157_1 rfl ?_
  refine ay_c_loc (pc := 2) fe_157_2 rfl ?_
  refine ay_c_loc (pc := 3) fe_157_3 rfl ?_
  refine ay_c_loc (pc := 4) fe_157_4 rfl ?_
  refine ay_c_callX (pc := 5) (t := 19) (k := 4) (c := 0) (s := 0) fe_157_5 (ay_args [.ref 0, .int a1, .int a2] [.int 0, .ref 329] rfl rfl (Nat.le_of_ble_eq_true rfl) (Nat.le_of_ble_eq_true rfl)) (ay_rcvV at_0 rfl) (ev_156 h) (by decide +kernel) rfl ?_
  refine ay_c_stk (pc := 19) (S' := [.int 2]) fe_157_19 rfl ?_
  exact ay_c_iret fe_157_20 rfl rfl
theorem wr_157_2 {a1 a2 : Int32} {D D1 : am_DD} {y : Int32} (h : fn_156 a1 a2 D = some (y, 3, D1)) : ay_mc 157 [.ref 0, .int a1, .int a2, .ref 329] D (some (.int 1)) D1 1 6 := by
  refine ay_mc_of (L := [some (.ref 0), some (.int a1), some (.int a2), some (.ref 329), none]) rfl ?_
  refine ay_c_loc (pc := 0) fe_157_0 rfl ?_
  refine ay_c_stk (pc := 1) (S' := [.int 0, .ref 329]) fe_157_1 rfl ?_
  refine ay_c_loc (pc := 2) fe_157_2 rfl ?_
  refine ay_c_loc (pc := 3) fe_157_3 rfl ?_
  refine ay_c_loc (pc := 4) fe_157_4 rfl ?_
  refine ay_c_callX (pc := 5) (t := 15) (k := 4) (c := 0) (s := 0) fe_157_5 (ay_args [.ref 0, .int a1, .int a2] [.int 0, .ref 329] rfl rfl (Nat.le_of_ble_eq_true rfl) (Nat.le_of_ble_eq_true rfl)) (ay_rcvV at_0 rfl) (ev_156 h) (by decide +kernel) rfl ?_
  refine ay_c_stk (pc := 15) (S' := [.int 1]) fe_157_15 rfl ?_
  exact ay_c_iret fe_157_16 rfl rfl
theorem wr_164 {a1 a2 : Int32} {D D1 : am_DD} {y : Int32} (h : fn_163 a1 a2 D = some (y, 0, D1)) : ay_mc 164 [.ref 0, .int a1, .int a2, .ref 329] D (some (.int 0)) (am_upd D1 329 0 y) 0 0 := by
  refine ay_mc_of (L := [some (.ref 0), some (.int a1), some (.int a2), some (.ref 329), none]) rfl ?_
  refine ay_c_loc (pc := 0) fe_164_0 rfl ?_
  refine ay_c_stk (pc := 1) (S' := [.int 0, .ref 329]) fe_164_1 rfl ?_
  refine ay_c_loc (pc := 2) fe_164_2 rfl ?_
  refine ay_c_loc (pc := 3) fe_164_3 rfl ?_
  refine ay_c_loc (pc := 4) fe_164_4 rfl ?_
  refine ay_c_call (pc := 5) (w := some (.int y)) fe_164_5 (ay_args [.ref 0, .int a1, .int a2] [.int 0, .ref 329] rfl rfl (Nat.le_of_ble_eq_true rfl) (Nat.le_of_ble_eq_true rfl)) (ay_rcvV at_0 rfl) (ev_163 h) ?_
  refine ay_c_stk (pc := 8) (S' := [.long y.toInt64, .int 0, .ref 329]) fe_164_8 rfl ?_
  refine ay_c_las (pc := 9) fe_164_9 ?_
  refine ay_c_br (pc := 10) (pc' := 17) fe_164_10 rfl ?_
  refine ay_c_stk (pc := 17) (S' := [.int 0]) fe_164_17 rfl ?_
  exact ay_c_iret fe_164_18 rfl rfl
theorem wr_164_0 {a1 a2 : Int32} {D D1 : am_DD} {y : Int32} (h : fn_163 a1 a2 D = some (y, 1, D1)) : ay_mc 164 [.ref 0, .int a1, .int a2, .ref 329] D (some (.int 1)) D1 1 6 := by
  refine ay_mc_of (L := [some (.ref 0), some (.int a1), some (.int a2), some (.ref 329), none]) rfl ?_
  refine ay_c_loc (pc := 0) fe_164_0 rfl ?_
  refine ay_c_stk (pc := 1) (S' := [.int 0, .ref 329]) fe_164_1 rfl ?_
  refine ay_c_loc (pc := 2) fe_164_2 rfl ?_
  refine ay_c_loc (pc := 3) fe_164_3 rfl ?_
  refine ay_c_loc (pc := 4) fe_164_4 rfl ?_
  refine ay_c_callX (pc := 5) (t := 15) (k := 4) (c := 0) (s := 0) fe_164_5 (ay_args [.ref 0, .int a1, .int a2] [.int 0, .ref 329] rfl rfl (Nat.le_of_ble_eq_true rfl) (Nat.le_of_ble_eq_true rfl)) (ay_rcvV at_0 rfl) (ev_163 h) (by decide +kernel) rfl ?_
  refine ay_c_stk (pc := 15) (S' := [.int 1]) fe_164_15 rfl ?_
  exact ay_c_iret fe_164_16 rfl rfl
theorem wr_169 {a1 a2 : Int32} {D D1 : am_DD} {y : Int32} (h : fn_168 a1 a2 D = some (y, 0, D1)) : ay_mc 169 [.ref 0, .int a1, .int a2, .ref 329] D (some (.int 0)) (am_upd D1 329 0 y) 0 0 := by
  refine ay_mc_of (L := [some (.ref 0), some (.int a1), some (.int a2), some (.ref 329), none]) rfl ?_
  refine ay_c_loc (pc := 0) fe_169_0 rfl ?_
  refine ay_c_stk (pc := 1) (S' := [.int 0, .ref 329]) fe_169_1 rfl ?_
  refine ay_c_loc (pc := 2) fe_169_2 rfl ?_
  refine ay_c_loc (pc := 3) fe_169_3 rfl ?_
  refine ay_c_loc (pc := 4) fe_169_4 rfl ?_
  refine ay_c_call (pc := 5) (w := some (.int y)) fe_169_5 (ay_args [.ref 0, .int a1, .int a2] [.int 0, .ref 329] rfl rfl (Nat.le_of_ble_eq_true rfl) (Nat.le_of_ble_eq_true rfl)) (ay_rcvV at_0 rfl) (ev_168 h) ?_
  refine ay_c_stk (pc := 8) (S' := [.long y.toInt64, .int 0, .ref 329]) fe_169_8 rfl ?_
  refine ay_c_las (pc := 9) fe_169_9 ?_
  refine ay_c_br (pc := 10) (pc' := 21) fe_169_10 rfl ?_
  refine ay_c_stk (pc := 21) (S' := [.int 0]) fe_169_21 rfl ?_
  exact ay_c_iret fe_169_22 rfl rfl
theorem wr_169_0 {a1 a2 : Int32} {D D1 : am_DD} {y : Int32} (h : fn_168 a1 a2 D = some (y, 1, D1)) : ay_mc 169 [.ref 0, .int a1, .int a2, .ref 329] D (some (.int 2)) D1 1 6 := by
  refine ay_mc_of (L := [some (.ref 0), some (.int a1), some (.int a2), some (.ref 329), none]) rfl ?_
  refine ay_c_loc (pc := 0) fe_169_0 rfl ?_
  refine ay_c_stk (pc := 1) (S' := [.int 0, .ref 329]) fe_169_1 rfl ?_
  refine ay_c_loc (pc := 2) fe_169_2 rfl ?_
  refine ay_c_loc (pc := 3) fe_169_3 rfl ?_
  refine ay_c_loc (pc := 4) fe_169_4 rfl ?_
  refine ay_c_callX (pc := 5) (t := 19) (k := 4) (c := 0) (s := 0) fe_169_5 (ay_args [.ref 0, .int a1, .int a2] [.int 0, .ref 329] rfl rfl (Nat.le_of_ble_eq_true rfl) (Nat.le_of_ble_eq_true rfl)) (ay_rcvV at_0 rfl) (ev_168 h) (by decide +kernel) rfl ?_
  refine ay_c_stk (pc := 19) (S' := [.int 2]) fe_169_19 rfl ?_
  exact ay_c_iret fe_169_20 rfl rfl
theorem wr_169_2 {a1 a2 : Int32} {D D1 : am_DD} {y : Int32} (h : fn_168 a1 a2 D = some (y, 3, D1)) : ay_mc 169 [.ref 0, .int a1, .int a2, .ref 329] D (some (.int 1)) D1 1 6 := by
  refine ay_mc_of (L := [some (.ref 0), some (.int a1), some (.int a2), some (.ref 329), none]) rfl ?_
  refine ay_c_loc (pc := 0) fe_169_0 rfl ?_
  refine ay_c_stk (pc := 1) (S' := [.int 0, .ref 329]) fe_169_1 rfl ?_
  refine ay_c_loc (pc := 2) fe_169_2 rfl ?_
  refine ay_c_loc (pc := 3) fe_169_3 rfl ?_
  refine ay_c_loc (pc := 4) fe_169_4 rfl ?_
  refine ay_c_callX (pc := 5) (t := 15) (k := 4) (c := 0) (s := 0) fe_169_5 (ay_args [.ref 0, .int a1, .int a2] [.int 0, .ref 329] rfl rfl (Nat.le_of_ble_eq_true rfl) (Nat.le_of_ble_eq_true rfl)) (ay_rcvV at_0 rfl) (ev_168 h) (by decide +kernel) rfl ?_
  refine ay_c_stk (pc := 15) (S' := [.int 1]) fe_169_15 rfl ?_
  exact ay_c_iret fe_169_16 rfl rfl
theorem wr_173 {a1 : Int32} {D D1 : am_DD} {y : Int32} (h : fn_172 a1 D = some (y, 0, D1)) : ay_mc 173 [.ref 0, .int a1, .ref 329] D (some (.int 0)) (am_upd D1 329 0 y) 0 0 := by
  refine ay_mc_of (L := [some (.ref 0), some (.int a1), some (.ref 329), none]) rfl ?_
  refine ay_c_loc (pc := 0) fe_173_0 rfl ?_
  refine ay_c_stk (pc := 1) (S' := [.int 0, .ref 329]) fe_173_1 rfl ?_
  refine ay_c_loc (pc := 2) fe_173_2 rfl ?_
  refine ay_c_loc (pc := 3) fe_173_3 rfl ?_
  refine ay_c_call (pc := 4) (w := some (.int y)) fe_173_4 (ay_args [.ref 0, .int a1] [.int 0, .ref 329] rfl rfl (Nat.le_of_ble_eq_true rfl) (Nat.le_of_ble_eq_true rfl)) (ay_rcvV at_0 rfl) (ev_172 h) ?_
  refine ay_c_stk (pc := 7) (S' := [.long y.toInt64, .int 0, .ref 329]) fe_173_7 rfl ?_
  refine ay_c_las (pc := 8) fe_173_8 ?_
  refine ay_c_br (pc := 9) (pc' := 15) fe_173_9 rfl ?_
  refine ay_c_stk (pc := 15) (S' := [.int 0]) fe_173_15 rfl ?_
  exact ay_c_iret fe_173_16 rfl rfl
theorem wr_173_0 {a1 : Int32} {D D1 : am_DD} {y : Int32} (h : fn_172 a1 D = some (y, 1, D1)) : ay_mc 173 [.ref 0, .int a1, .ref 329] D (some (.int 1)) D1 1 6 := by
  refine ay_mc_of (L := [some (.ref 0), some (.int a1), some (.ref 329), none]) rfl ?_
  refine ay_c_loc (pc := 0) fe_173_0 rfl ?_
  refine ay_c_stk (pc := 1) (S' := [.int 0, .ref 329]) fe_173_1 rfl ?_
  refine ay_c_loc (pc := 2) fe_173_2 rfl ?_
  refine ay_c_loc (pc := 3) fe_173_3 rfl ?_
  refine ay_c_callX (pc := 4) (t := 13) (k := 3) (c := 0) (s := 0) fe_173_4 (ay_args [.ref 0, .int a1] [.int 0, .ref 329] rfl rfl (Nat.le_of_ble_eq_true rfl) (Nat.le_of_ble_eq_true rfl)) (ay_rcvV at_0 rfl) (ev_172 h) (by decide +kernel) rfl ?_
  refine ay_c_stk (pc := 13) (S' := [.int 1]) fe_173_13 rfl ?_
  exact ay_c_iret fe_173_14 rfl rfl
theorem wr_179 {a1 a2 : Int32} {D D1 : am_DD} {y : Int32} (h : fn_178 a1 a2 D = some (y, 0, D1)) : ay_mc 179 [.ref 0, .int a1, .int a2, .ref 329] D (some (.int 0)) (am_upd D1 329 0 y) 0 0 := by
  refine ay_mc_of (L := [some (.ref 0), some (.int a1), some (.int a2), some (.ref 329), none]) rfl ?_
  refine ay_c_loc (pc := 0) fe_179_0 rfl ?_
  refine ay_c_stk (pc := 1) (S' := [.int 0, .ref 329]) fe_179_1 rfl ?_
  refine ay_c_loc (pc := 2) fe_179_2 rfl ?_
  refine ay_c_loc (pc := 3) fe_179_3 rfl ?_
  refine ay_c_loc (pc := 4) fe_179_4 rfl ?_
  refine ay_c_call (pc := 5) (w := some (.int y)) fe_179_5 (ay_args [.ref 0, .int a1, .int a2] [.int 0, .ref 329] rfl rfl (Nat.le_of_ble_eq_true rfl) (Nat.le_of_ble_eq_true rfl)) (ay_rcvV at_0 rfl) (ev_178 h) ?_
  refine ay_c_stk (pc := 8) (S' := [.long y.toInt64, .int 0, .ref 329]) fe_179_8 rfl ?_
  refine ay_c_las (pc := 9) fe_179_9 ?_
  refine ay_c_br (pc := 10) (pc' := 17) fe_179_10 rfl ?_
  refine ay_c_stk (pc := 17) (S' := [.int 0]) fe_179_17 rfl ?_
  exact ay_c_iret fe_179_18 rfl rfl
theorem wr_179_0 {a1 a2 : Int32} {D D1 : am_DD} {y : Int32} (h : fn_178 a1 a2 D = some (y, 1, D1)) : ay_mc 179 [.ref 0, .int a1, .int a2, .ref 329] D (some (.int 1)) D1 1 6 := by
  refine ay_mc_of (L := [some (.ref 0), some (.int a1), some (.int a2), some (.ref 329), none]) rfl ?_
  refine ay_c_loc (pc := 0) fe_179_0 rfl ?_
  refine ay_c_stk (pc := 1) (S' := [.int 0, .ref 329]) fe_179_1 rfl ?_
  refine ay_c_loc (pc := 2) fe_179_2 rfl ?_
  refine ay_c_loc (pc := 3) fe_179_3 rfl ?_
  refine ay_c_loc (pc := 4) fe_179_4 rfl ?_
  refine ay_c_callX (pc := 5) (t := 15) (k := 4) (c := 0) (s := 0) fe_179_5 (ay_args [.ref 0, .int a1, .int a2] [.int 0, .ref 329] rfl rfl (Nat.le_of_ble_eq_true rfl) (Nat.le_of_ble_eq_true rfl)) (ay_rcvV at_0 rfl) (ev_178 h) (by decide +kernel) rfl ?_
  refine ay_c_stk (pc := 15) (S' := [.int 1]) fe_179_15 rfl ?_
  exact ay_c_iret fe_179_16 rfl rfl
theorem wr_184 {a1 : Int32} {D D1 : am_DD} {y : Int32} (h : fn_183 a1 D = some (y, 0, D1)) : ay_mc 184 [.ref 0, .int a1, .ref 329] D (some (.int 0)) (am_upd D1 329 0 y) 0 0 := by
  refine ay_mc_of (L := [some (.ref 0), some (.int a1), some (.ref 329), none]) rfl ?_
  refine ay_c_loc (pc := 0) fe_184_0 rfl ?_
  refine ay_c_stk (pc := 1) (S' := [.int 0, .ref 329]) fe_184_1 rfl ?_
  refine ay_c_loc (pc := 2) fe_184_2 rfl ?_
  refine ay_c_loc (pc := 3) fe_184_3 rfl ?_
  refine ay_c_call (pc := 4) (w := some (.int y)) fe_184_4 (ay_args [.ref 0, .int a1] [.int 0, .ref 329] rfl rfl (Nat.le_of_ble_eq_true rfl) (Nat.le_of_ble_eq_true rfl)) (ay_rcvV at_0 rfl) (ev_183 h) ?_
  refine ay_c_stk (pc := 7) (S' := [.long y.toInt64, .int 0, .ref 329]) fe_184_7 rfl ?_
  refine ay_c_las (pc := 8) fe_184_8 ?_
  refine ay_c_br (pc := 9) (pc' := 15) fe_184_9 rfl ?_
  refine ay_c_stk (pc := 15) (S' := [.int 0]) fe_184_15 rfl ?_
  exact ay_c_iret fe_184_16 rfl rfl
theorem wr_184_0 {a1 : Int32} {D D1 : am_DD} {y : Int32} (h : fn_183 a1 D = some (y, 1, D1)) : ay_mc 184 [.ref 0, .int a1, .ref 329] D (some (.int 1)) D1 1 6 := by
  refine ay_mc_of (L := [some (.ref 0), some (.int a1), some (.ref 329), none]) rfl ?_
  refine ay_c_loc (pc := 0) fe_184_0 rfl ?_
  refine ay_c_stk (pc := 1) (S' := [.int 0, .ref 329]) fe_184_1 rfl ?_
  refine ay_c_loc (pc := 2) fe_184_2 rfl ?_
  refine ay_c_loc (pc := 3) fe_184_3 rfl ?_
  refine ay_c_callX (pc := 4) (t := 13) (k := 3) (c := 0) (s := 0) fe_184_4 (ay_args [.ref 0, .int a1] [.int 0, .ref 329] rfl rfl (Nat.le_of_ble_eq_true rfl) (Nat.le_of_ble_eq_true rfl)) (ay_rcvV at_0 rfl) (ev_183 h) (by decide +kernel) rfl ?_
  refine ay_c_stk (pc := 13) (S' := [.int 1]) fe_184_13 rfl ?_
  exact ay_c_iret fe_184_14 rfl rfl
theorem wr_198 {a1 : Int32} {D D1 : am_DD} {y : Int32} (h : fn_197 a1 D = some (y, 0, D1)) : ay_mc 198 [.ref 0, .int a1, .ref 329] D (some (.int 0)) (am_upd D1 329 0 y) 0 0 := by
  refine ay_mc_of (L := [some (.ref 0), some (.int a1), some (.ref 329), none]) rfl ?_
  refine ay_c_loc (pc := 0) fe_198_0 rfl ?_
  refine ay_c_stk (pc := 1) (S' := [.int 0, .ref 329]) fe_198_1 rfl ?_
  refine ay_c_loc (pc := 2) fe_198_2 rfl ?_
  refine ay_c_loc (pc := 3) fe_198_3 rfl ?_
  refine ay_c_call (pc := 4) (w := some (.int y)) fe_198_4 (ay_args [.ref 0, .int a1] [.int 0, .ref 329] rfl rfl (Nat.le_of_ble_eq_true rfl) (Nat.le_of_ble_eq_true rfl)) (ay_rcvV at_0 rfl) (ev_197 h) ?_
  refine ay_c_stk (pc := 7) (S' := [.long y.toInt64, .int 0, .ref 329]) fe_198_7 rfl ?_
  refine ay_c_las (pc := 8) fe_198_8 ?_
  refine ay_c_br (pc := 9) (pc' := 15) fe_198_9 rfl ?_
  refine ay_c_stk (pc := 15) (S' := [.int 0]) fe_198_15 rfl ?_
  exact ay_c_iret fe_198_16 rfl rfl
theorem wr_198_0 {a1 : Int32} {D D1 : am_DD} {y : Int32} (h : fn_197 a1 D = some (y, 1, D1)) : ay_mc 198 [.ref 0, .int a1, .ref 329] D (some (.int 1)) D1 1 6 := by
  refine ay_mc_of (L := [some (.ref 0), some (.int a1), some (.ref 329), none]) rfl ?_
  refine ay_c_loc (pc := 0) fe_198_0 rfl ?_
  refine ay_c_stk (pc := 1) (S' := [.int 0, .ref 329]) fe_198_1 rfl ?_
  refine ay_c_loc (pc := 2) fe_198_2 rfl ?_
  refine ay_c_loc (pc := 3) fe_198_3 rfl ?_
  refine ay_c_callX (pc := 4) (t := 13) (k := 3) (c := 0) (s := 0) fe_198_4 (ay_args [.ref 0, .int a1] [.int 0, .ref 329] rfl rfl (Nat.le_of_ble_eq_true rfl) (Nat.le_of_ble_eq_true rfl)) (ay_rcvV at_0 rfl) (ev_197 h) (by decide +kernel) rfl ?_
  refine ay_c_stk (pc := 13) (S' := [.int 1]) fe_198_13 rfl ?_
  exact ay_c_iret fe_198_14 rfl rfl
theorem wr_216 {a1 a2 a3 : Int32} {D D1 : am_DD} {y : Int32} (h : fn_215 a1 a2 a3 D = some (y, 0, D1)) : ay_mc 216 [.ref 0, .int a1, .int a2, .int a3, .ref 329] D (some (.int 0)) (am_upd D1 329 0 y) 0 0 := by
  refine ay_mc_of (L := [some (.ref 0), some (.int a1), some (.int a2), some (.int a3), some (.ref 329), none]) rfl ?_
  refine ay_c_loc (pc := 0) fe_216_0 rfl ?_
  refine ay_c_stk (pc := 2) (S' := [.int 0, .ref 329]) fe_216_2 rfl ?_
  refine ay_c_loc (pc := 3) fe_216_3 rfl ?_
  refine ay_c_loc (pc := 4) fe_216_4 rfl ?_
  refine ay_c_loc (pc := 5) fe_216_5 rfl ?_
  refine ay_c_loc (pc := 6) fe_216_6 rfl ?_
  refine ay_c_call (pc := 7) (w := some (.int y)) fe_216_7 (ay_args [.ref 0, .int a1, .int a2, .int a3] [.int 0, .ref 329] rfl rfl (Nat.le_of_ble_eq_true rfl) (Nat.le_of_ble_eq_true rfl)) (ay_rcvV at_0 rfl) (ev_215 h) ?_
  refine ay_c_stk (pc := 10) (S' := [.long y.toInt64, .int 0, .ref 329]) fe_216_10 rfl ?_
  refine ay_c_las (pc := 11) fe_216_11 ?_
  refine ay_c_br (pc := 12) (pc' := 23) fe_216_12 rfl ?_
  refine ay_c_stk (pc := 23) (S' := [.int 0]) fe_216_23 rfl ?_
  exact ay_c_iret fe_216_24 rfl rfl
theorem wr_216_0 {a1 a2 a3 : Int32} {D D1 : am_DD} {y : Int32} (h : fn_215 a1 a2 a3 D = some (y, 1, D1)) : ay_mc 216 [.ref 0, .int a1, .int a2, .int a3, .ref 329] D (some (.int 2)) D1 1 6 := by
  refine ay_mc_of (L := [some (.ref 0), some (.int a1), some (.int a2), some (.int a3), some (.ref 329), none]) rfl ?_
  refine ay_c_loc (pc := 0) fe_216_0 rfl ?_
  refine ay_c_stk (pc := 2) (S' := [.int 0, .ref 329]) fe_216_2 rfl ?_
  refine ay_c_loc (pc := 3) fe_216_3 rfl ?_
  refine ay_c_loc (pc := 4) fe_216_4 rfl ?_
  refine ay_c_loc (pc := 5) fe_216_5 rfl ?_
  refine ay_c_loc (pc := 6) fe_216_6 rfl ?_
  refine ay_c_callX (pc := 7) (t := 21) (k := 5) (c := 0) (s := 0) fe_216_7 (ay_args [.ref 0, .int a1, .int a2, .int a3] [.int 0, .ref 329] rfl rfl (Nat.le_of_ble_eq_true rfl) (Nat.le_of_ble_eq_true rfl)) (ay_rcvV at_0 rfl) (ev_215 h) (by decide +kernel) rfl ?_
  refine ay_c_stk (pc := 21) (S' := [.int 2]) fe_216_21 rfl ?_
  exact ay_c_iret fe_216_22 rfl rfl
theorem wr_216_2 {a1 a2 a3 : Int32} {D D1 : am_DD} {y : Int32} (h : fn_215 a1 a2 a3 D = some (y, 3, D1)) : ay_mc 216 [.ref 0, .int a1, .int a2, .int a3, .ref 329] D (some (.int 1)) D1 1 6 := by
  refine ay_mc_of (L := [some (.ref 0), some (.int a1), some (.int a2), some (.int a3), some (.ref 329), none]) rfl ?_
  refine ay_c_loc (pc := 0) fe_216_0 rfl ?_
  refine ay_c_stk (pc := 2) (S' := [.int 0, .ref 329]) fe_216_2 rfl ?_
  refine ay_c_loc (pc := 3) fe_216_3 rfl ?_
  refine ay_c_loc (pc := 4) fe_216_4 rfl ?_
  refine ay_c_loc (pc := 5) fe_216_5 rfl ?_
  refine ay_c_loc (pc := 6) fe_216_6 rfl ?_
  refine ay_c_callX (pc := 7) (t := 17) (k := 5) (c := 0) (s := 0) fe_216_7 (ay_args [.ref 0, .int a1, .int a2, .int a3] [.int 0, .ref 329] rfl rfl (Nat.le_of_ble_eq_true rfl) (Nat.le_of_ble_eq_true rfl)) (ay_rcvV at_0 rfl) (ev_215 h) (by decide +kernel) rfl ?_
  refine ay_c_stk (pc := 17) (S' := [.int 1]) fe_216_17 rfl ?_
  exact ay_c_iret fe_216_18 rfl rfl
theorem wr_222 {a1 a2 : Int32} {D D1 : am_DD} {y : Int32} (h : fn_221 a1 a2 D = some (y, 0, D1)) : ay_mc 222 [.ref 0, .int a1, .int a2, .ref 329] D (some (.int 0)) (am_upd D1 329 0 y) 0 0 := by
  refine ay_mc_of (L := [some (.ref 0), some (.int a1), some (.int a2), some (.ref 329), none]) rfl ?_
  refine ay_c_loc (pc := 0) fe_222_0 rfl ?_
  refine ay_c_stk (pc := 1) (S' := [.int 0, .ref 329]) fe_222_1 rfl ?_
  refine ay_c_loc (pc := 2) fe_222_2 rfl ?_
  refine ay_c_loc (pc := 3) fe_222_3 rfl ?_
  refine ay_c_loc (pc := 4) fe_222_4 rfl ?_
  refine ay_c_call (pc := 5) (w := some (.int y)) fe_222_5 (ay_args [.ref 0, .int a1, .int a2] [.int 0, .ref 329] rfl rfl (Nat.le_of_ble_eq_true rfl) (Nat.le_of_ble_eq_true rfl)) (ay_rcvV at_0 rfl) (ev_221 h) ?_
  refine ay_c_stk (pc := 8) (S' := [.long y.toInt64, .int 0, .ref 329]) fe_222_8 rfl ?_
  refine ay_c_las (pc := 9) fe_222_9 ?_
  refine ay_c_br (pc := 10) (pc' := 21) fe_222_10 rfl ?_
  refine ay_c_stk (pc := 21) (S' := [.int 0]) fe_222_21 rfl ?_
  exact ay_c_iret fe_222_22 rfl rfl
theorem wr_222_0 {a1 a2 : Int32} {D D1 : am_DD} {y : Int32} (h : fn_221 a1 a2 D = some (y, 1, D1)) : ay_mc 222 [.ref 0, .int a1, .int a2, .ref 329] D (some (.int 2)) D1 1 6 := by
  refine ay_mc_of (L := [some (.ref 0), some (.int a1), some (.int a2), some (.ref 329), none]) rfl ?_
  refine ay_c_loc (pc := 0) fe_222_0 rfl ?_
  refine ay_c_stk (pc := 1) (S' := [.int 0, .ref 329]) fe_222_1 rfl ?_
  refine ay_c_loc (pc := 2) fe_222_2 rfl ?_
  refine ay_c_loc (pc := 3) fe_222_3 rfl ?_
  refine ay_c_loc (pc := 4) fe_222_4 rfl ?_
  refine ay_c_callX (pc := 5) (t := 19) (k := 4) (c := 0) (s := 0) fe_222_5 (ay_args [.ref 0, .int a1, .int a2] [.int 0, .ref 329] rfl rfl (Nat.le_of_ble_eq_true rfl) (Nat.le_of_ble_eq_true rfl)) (ay_rcvV at_0 rfl) (ev_221 h) (by decide +kernel) rfl ?_
  refine ay_c_stk (pc := 19) (S' := [.int 2]) fe_222_19 rfl ?_
  exact ay_c_iret fe_222_20 rfl rfl
theorem wr_222_2 {a1 a2 : Int32} {D D1 : am_DD} {y : Int32} (h : fn_221 a1 a2 D = some (y, 3, D1)) : ay_mc 222 [.ref 0, .int a1, .int a2, .ref 329] D (some (.int 1)) D1 1 6 := by
  refine ay_mc_of (L := [some (.ref 0), some (.int a1), some (.int a2), some (.ref 329), none]) rfl ?_
  refine ay_c_loc (pc := 0) fe_222_0 rfl ?_
  refine ay_c_stk (pc := 1) (S' := [.int 0, .ref 329]) fe_222_1 rfl ?_
  refine ay_c_loc (pc := 2) fe_222_2 rfl ?_
  refine ay_c_loc (pc := 3) fe_222_3 rfl ?_
  refine ay_c_loc (pc := 4) fe_222_4 rfl ?_
  refine ay_c_callX (pc := 5) (t := 15) (k := 4) (c := 0) (s := 0) fe_222_5 (ay_args [.ref 0, .int a1, .int a2] [.int 0, .ref 329] rfl rfl (Nat.le_of_ble_eq_true rfl) (Nat.le_of_ble_eq_true rfl)) (ay_rcvV at_0 rfl) (ev_221 h) (by decide +kernel) rfl ?_
  refine ay_c_stk (pc := 15) (S' := [.int 1]) fe_222_15 rfl ?_
  exact ay_c_iret fe_222_16 rfl rfl
theorem wr_226 {a1 : Int32} {D D1 : am_DD} {y : Int32} (h : fn_225 a1 D = some (y, 0, D1)) : ay_mc 226 [.ref 0, .int a1, .ref 329] D (some (.int 0)) (am_upd D1 329 0 y) 0 0 := by
  refine ay_mc_of (L := [some (.ref 0), some (.int a1), some (.ref 329), none]) rfl ?_
  refine ay_c_loc (pc := 0) fe_226_0 rfl ?_
  refine ay_c_stk (pc := 1) (S' := [.int 0, .ref 329]) fe_226_1 rfl ?_
  refine ay_c_loc (pc := 2) fe_226_2 rfl ?_
  refine ay_c_loc (pc := 3) fe_226_3 rfl ?_
  refine ay_c_call (pc := 4) (w := some (.int y)) fe_226_4 (ay_args [.ref 0, .int a1] [.int 0, .ref 329] rfl rfl (Nat.le_of_ble_eq_true rfl) (Nat.le_of_ble_eq_true rfl)) (ay_rcvV at_0 rfl) (ev_225 h) ?_
  refine ay_c_stk (pc := 7) (S' := [.long y.toInt64, .int 0, .ref 329]) fe_226_7 rfl ?_
  refine ay_c_las (pc := 8) fe_226_8 ?_
  refine ay_c_br (pc := 9) (pc' := 15) fe_226_9 rfl ?_
  refine ay_c_stk (pc := 15) (S' := [.int 0]) fe_226_15 rfl ?_
  exact ay_c_iret fe_226_16 rfl rfl
theorem wr_226_0 {a1 : Int32} {D D1 : am_DD} {y : Int32} (h : fn_225 a1 D = some (y, 1, D1)) : ay_mc 226 [.ref 0, .int a1, .ref 329] D (some (.int 1)) D1 1 6 := by
  refine ay_mc_of (L := [some (.ref 0), some (.int a1), some (.ref 329), none]) rfl ?_
  refine ay_c_loc (pc := 0) fe_226_0 rfl ?_
  refine ay_c_stk (pc := 1) (S' := [.int 0, .ref 329]) fe_226_1 rfl ?_
  refine ay_c_loc (pc := 2) fe_226_2 rfl ?_
  refine ay_c_loc (pc := 3) fe_226_3 rfl ?_
  refine ay_c_callX (pc := 4) (t := 13) (k := 3) (c := 0) (s := 0) fe_226_4 (ay_args [.ref 0, .int a1] [.int 0, .ref 329] rfl rfl (Nat.le_of_ble_eq_true rfl) (Nat.le_of_ble_eq_true rfl)) (ay_rcvV at_0 rfl) (ev_225 h) (by decide +kernel) rfl ?_
  refine ay_c_stk (pc := 13) (S' := [.int 1]) fe_226_13 rfl ?_
  exact ay_c_iret fe_226_14 rfl rfl
theorem wr_230 {a1 : Int32} {D D1 : am_DD} {y : Int32} (h : fn_229 a1 D = some (y, 0, D1)) : ay_mc 230 [.ref 0, .int a1, .ref 329] D (some (.int 0)) (am_upd D1 329 0 y) 0 0 := by
  refine ay_mc_of (L := [some (.ref 0), some (.int a1), some (.ref 329), none]) rfl ?_
  refine ay_c_loc (pc := 0) fe_230_0 rfl ?_
  refine ay_c_stk (pc := 1) (S' := [.int 0, .ref 329]) fe_230_1 rfl ?_
  refine ay_c_loc (pc := 2) fe_230_2 rfl ?_
  refine ay_c_loc (pc := 3) fe_230_3 rfl ?_
  refine ay_c_call (pc := 4) (w := some (.int y)) fe_230_4 (ay_args [.ref 0, .int a1] [.int 0, .ref 329] rfl rfl (Nat.le_of_ble_eq_true rfl) (Nat.le_of_ble_eq_true rfl)) (ay_rcvV at_0 rfl) (ev_229 h) ?_
  refine ay_c_stk (pc := 7) (S' := [.long y.toInt64, .int 0, .ref 329]) fe_230_7 rfl ?_
  refine ay_c_las (pc := 8) fe_230_8 ?_
  refine ay_c_br (pc := 9) (pc' := 15) fe_230_9 rfl ?_
  refine ay_c_stk (pc := 15) (S' := [.int 0]) fe_230_15 rfl ?_
  exact ay_c_iret fe_230_16 rfl rfl
theorem wr_230_2 {a1 : Int32} {D D1 : am_DD} {y : Int32} (h : fn_229 a1 D = some (y, 3, D1)) : ay_mc 230 [.ref 0, .int a1, .ref 329] D (some (.int 1)) D1 1 6 := by
  refine ay_mc_of (L := [some (.ref 0), some (.int a1), some (.ref 329), none]) rfl ?_
  refine ay_c_loc (pc := 0) fe_230_0 rfl ?_
  refine ay_c_stk (pc := 1) (S' := [.int 0, .ref 329]) fe_230_1 rfl ?_
  refine ay_c_loc (pc := 2) fe_230_2 rfl ?_
  refine ay_c_loc (pc := 3) fe_230_3 rfl ?_
  refine ay_c_callX (pc := 4) (t := 13) (k := 3) (c := 0) (s := 0) fe_230_4 (ay_args [.ref 0, .int a1] [.int 0, .ref 329] rfl rfl (Nat.le_of_ble_eq_true rfl) (Nat.le_of_ble_eq_true rfl)) (ay_rcvV at_0 rfl) (ev_229 h) (by decide +kernel) rfl ?_
  refine ay_c_stk (pc := 13) (S' := [.int 1]) fe_230_13 rfl ?_
  exact ay_c_iret fe_230_14 rfl rfl
set_option maxHeartbeats 2000000 in
theorem lw_0 {n : Nat} {xs : Nat → Int32} {i v0 v1 k b : Int32} {D D1 D2 : am_DD} {c1 s1 : Nat} (q0 : ¬ (i < 0 ∨ n ≤ i.toNatClampNeg)) (e0 : xs i.toNatClampNeg = v0) (q1 : ¬ ((i + 1) < 0 ∨ n ≤ (i + 1).toNatClampNeg)) (e1 : xs (i + 1).toNatClampNeg = v1) (hc : v0 &&& 31 = 0) (hw : ay_mc 25 [.ref 0, .int v1, .ref 329] D (some (.int k)) D1 c1 s1) (hm : ay_mo 34 [.ref 321, .int v1] D1 (.inl (some (.int b))) D2) (ht : D2 321 7 = k) (hz : k = 0 → D2 329 0 = b) : ay_lw n xs i D D2 c1 s1 := by
  refine ⟨some (.int k), some (.int b), none, none, ?_⟩
  refine ay_e_loc (pc := 32) fe_240_32 rfl ?_
  refine ay_e_loc (pc := 33) fe_240_33 rfl ?_
  refine ay_e_scr (pc := 35) (v := v0) fe_240_35 q0 e0 ?_
  refine ay_e_stk (pc := 36) (S' := [.int 31, .int v0]) fe_240_36 rfl ?_
  refine ay_e_stk (pc := 38) (S' := [.int (v0 &&& 31)]) fe_240_38 rfl ?_
  refine ay_e_br (pc := 39) (pc' := 168) (S' := []) fe_240_39 (by rw [hc]; rfl) ?_
  refine ay_e_loc (pc := 168) fe_240_168 rfl ?_
  refine ay_e_loc (pc := 169) fe_240_169 rfl ?_
  refine ay_e_loc (pc := 170) fe_240_170 rfl ?_
  refine ay_e_stk (pc := 172) (S' := [.int 1, .int i, .ref am_scr, .ref 0]) fe_240_172 rfl ?_
  refine ay_e_stk (pc := 173) (S' := [.int (i + 1), .ref am_scr, .ref 0]) fe_240_173 rfl ?_
  refine ay_e_scr (pc := 174) (v := v1) fe_240_174 q1 e1 ?_
  refine ay_e_loc (pc := 175) fe_240_175 rfl ?_
  refine ay_e_callC (pc := 176) (c := 0) (s := 0) fe_240_176 (ay_args [.ref 0, .int v1, .ref 329] [] rfl rfl (Nat.le_of_ble_eq_true rfl) (Nat.le_of_ble_eq_true rfl)) rfl hw ?_
  refine ay_e_loc (pc := 179) (L' := [some (.ref am_scr), some (.ref 0), some (.ref 321), some (.ref 329), some (.int i), some (.int k), none, none, none]) fe_240_179 rfl ?_
  refine ay_e_loc (pc := 181) fe_240_181 rfl ?_
  refine ay_e_loc (pc := 182) fe_240_182 rfl ?_
  refine ay_e_loc (pc := 183) fe_240_183 rfl ?_
  refine ay_e_stk (pc := 185) (S' := [.int 1, .int i, .ref am_scr, .ref 321]) fe_240_185 rfl ?_
  refine ay_e_stk (pc := 186) (S' := [.int (i + 1), .ref am_scr, .ref 321]) fe_240_186 rfl ?_
  refine ay_e_scr (pc := 187) (v := v1) fe_240_187 q1 e1 ?_
  refine ay_e_call (pc := 188) (v := some (.int b)) fe_240_188 (ay_args [.ref 321, .int v1] [] rfl rfl (Nat.le_of_ble_eq_true rfl) (Nat.le_of_ble_eq_true rfl)) (ay_rcvV at_321 rfl) hm ?_
  refine ay_e_loc (pc := 191) (L' := [some (.ref am_scr), some (.ref 0), some (.ref 321), some (.ref 329), some (.int i), some (.int k), some (.int b), none, none]) fe_240_191 rfl ?_
  refine ay_e_loc (pc := 193) fe_240_193 rfl ?_
  refine ay_e_call (pc := 194) (v := some (.int (D2 321 7))) fe_240_194 (ay_args [.ref 321] [] rfl rfl (Nat.le_of_ble_eq_true rfl) (Nat.le_of_ble_eq_true rfl)) (ay_rcvV at_321 rfl) ay_m35 ?_
  refine ay_e_loc (pc := 197) fe_240_197 rfl ?_
  refine ay_e_pos (pc := 199) ht fe_240_199 rfl ?_
  refine ay_e_loc (pc := 204) fe_240_204 rfl ?_
  by_cases hk : k = 0
  · refine ay_e_neg (pc := 206) (P := ¬ k = 0) (fun h => h hk) fe_240_206 rfl ?_
    refine ay_e_loc (pc := 209) fe_240_209 rfl ?_
    refine ay_e_stk (pc := 210) (S' := [.int 0, .ref 329]) fe_240_210 rfl ?_
    refine ay_e_lal (pc := 211) fe_240_211 ?_
    refine ay_e_loc (pc := 212) fe_240_212 rfl ?_
    refine ay_e_stk (pc := 214) (S' := [.long b.toInt64, .long (D2 329 0).toInt64]) fe_240_214 rfl ?_
    refine ay_e_stk (pc := 215) (S' := [.int (lg_cmp ((D2 329 0).toInt64) b.toInt64)]) fe_240_215 rfl ?_
    refine ay_e_pos (pc := 216) (P := lg_cmp (D2 329 0).toInt64 b.toInt64 = 0) (by rw [hz hk]; exact ay_cmp0 _) fe_240_216 rfl ?_
    refine ay_e_br (pc := 221) (pc' := 1743) fe_240_221 rfl ?_
    refine ay_e_loc (pc := 1743) (L' := [some (.ref am_scr), some (.ref 0), some (.ref 321), some (.ref 329), some (.int (i + 4)), some (.int k), some (.int b), none, none]) fe_240_1743 rfl ?_
    refine ay_e_br (pc := 1746) (pc' := 23) fe_240_1746 rfl ?_
    exact ay_e_end fe_240_23 (by decide)
  · refine ay_e_pos (pc := 206) (P := ¬ k = 0) hk fe_240_206 rfl ?_
    refine ay_e_br (pc := 221) (pc' := 1743) fe_240_221 rfl ?_
    refine ay_e_loc (pc := 1743) (L' := [some (.ref am_scr), some (.ref 0), some (.ref 321), some (.ref 329), some (.int (i + 4)), some (.int k), some (.int b), none, none]) fe_240_1743 rfl ?_
    refine ay_e_br (pc := 1746) (pc' := 23) fe_240_1746 rfl ?_
    exact ay_e_end fe_240_23 (by decide)
set_option maxHeartbeats 2000000 in
theorem lw_1 {n : Nat} {xs : Nat → Int32} {i v0 v1 v2 v3 k b : Int32} {D D1 D2 : am_DD} {c1 s1 : Nat} (q0 : ¬ (i < 0 ∨ n ≤ i.toNatClampNeg)) (e0 : xs i.toNatClampNeg = v0) (q1 : ¬ ((i + 1) < 0 ∨ n ≤ (i + 1).toNatClampNeg)) (e1 : xs (i + 1).toNatClampNeg = v1) (q2 : ¬ ((i + 2) < 0 ∨ n ≤ (i + 2).toNatClampNeg)) (e2 : xs (i + 2).toNatClampNeg = v2) (q3 : ¬ ((i + 3) < 0 ∨ n ≤ (i + 3).toNatClampNeg)) (e3 : xs (i + 3).toNatClampNeg = v3) (hc : v0 &&& 31 = 1) (hw : ay_mc 43 [.ref 0, .int v1, .int v2, .int v3, .ref 329] D (some (.int k)) D1 c1 s1) (hm : ay_mo 50 [.ref 321, .int v1, .int v2, .int v3] D1 (.inl (some (.int b))) D2) (ht : D2 321 7 = k) (hz : k = 0 → D2 329 0 = b) : ay_lw n xs i D D2 c1 s1 := by
  refine ⟨some (.int k), some (.int b), none, none, ?_⟩
  refine ay_e_loc (pc := 32) fe_240_32 rfl ?_
  refine ay_e_loc (pc := 33) fe_240_33 rfl ?_
  refine ay_e_scr (pc := 35) (v := v0) fe_240_35 q0 e0 ?_
  refine ay_e_stk (pc := 36) (S' := [.int 31, .int v0]) fe_240_36 rfl ?_
  refine ay_e_stk (pc := 38) (S' := [.int (v0 &&& 31)]) fe_240_38 rfl ?_
  refine ay_e_br (pc := 39) (pc' := 224) (S' := []) fe_240_39 (by rw [hc]; rfl) ?_
  refine ay_e_loc (pc := 224) fe_240_224 rfl ?_
  refine ay_e_loc (pc := 225) fe_240_225 rfl ?_
  refine ay_e_loc (pc := 226) fe_240_226 rfl ?_
  refine ay_e_stk (pc := 228) (S' := [.int 1, .int i, .ref am_scr, .ref 0]) fe_240_228 rfl ?_
  refine ay_e_stk (pc := 229) (S' := [.int (i + 1), .ref am_scr, .ref 0]) fe_240_229 rfl ?_
  refine ay_e_scr (pc := 230) (v := v1) fe_240_230 q1 e1 ?_
  refine ay_e_loc (pc := 231) fe_240_231 rfl ?_
  refine ay_e_loc (pc := 232) fe_240_232 rfl ?_
  refine ay_e_stk (pc := 234) (S' := [.int 2, .int i, .ref am_scr, .int v1, .ref 0]) fe_240_234 rfl ?_
  refine ay_e_stk (pc := 235) (S' := [.int (i + 2), .ref am_scr, .int v1, .ref 0]) fe_240_235 rfl ?_
  refine ay_e_scr (pc := 236) (v := v2) fe_240_236 q2 e2 ?_
  refine ay_e_loc (pc := 237) fe_240_237 rfl ?_
  refine ay_e_loc (pc := 238) fe_240_238 rfl ?_
  refine ay_e_stk (pc := 240) (S' := [.int 3, .int i, .ref am_scr, .int v2, .int v1, .ref 0]) fe_240_240 rfl ?_
  refine ay_e_stk (pc := 241) (S' := [.int (i + 3), .ref am_scr, .int v2, .int v1, .ref 0]) fe_240_241 rfl ?_
  refine ay_e_scr (pc := 242) (v := v3) fe_240_242 q3 e3 ?_
  refine ay_e_loc (pc := 243) fe_240_243 rfl ?_
  refine ay_e_callC (pc := 244) (c := 0) (s := 0) fe_240_244 (ay_args [.ref 0, .int v1, .int v2, .int v3, .ref 329] [] rfl rfl (Nat.le_of_ble_eq_true rfl) (Nat.le_of_ble_eq_true rfl)) rfl hw ?_
  refine ay_e_loc (pc := 247) (L' := [some (.ref am_scr), some (.ref 0), some (.ref 321), some (.ref 329), some (.int i), some (.int k), none, none, none]) fe_240_247 rfl ?_
  refine ay_e_loc (pc := 249) fe_240_249 rfl ?_
  refine ay_e_loc (pc := 250) fe_240_250 rfl ?_
  refine ay_e_loc (pc := 251) fe_240_251 rfl ?_
  refine ay_e_stk (pc := 253) (S' := [.int 1, .int i, .ref am_scr, .ref 321]) fe_240_253 rfl ?_
  refine ay_e_stk (pc := 254) (S' := [.int (i + 1), .ref am_scr, .ref 321]) fe_240_254 rfl ?_
  refine ay_e_scr (pc := 255) (v := v1) fe_240_255 q1 e1 ?_
  refine ay_e_loc (pc := 256) fe_240_256 rfl ?_
  refine ay_e_loc (pc := 257) fe_240_257 rfl ?_
  refine ay_e_stk (pc := 259) (S' := [.int 2, .int i, .ref am_scr, .int v1, .ref 321]) fe_240_259 rfl ?_
  refine ay_e_stk (pc := 260) (S' := [.int (i + 2), .ref am_scr, .int v1, .ref 321]) fe_240_260 rfl ?_
  refine ay_e_scr (pc := 261) (v := v2) fe_240_261 q2 e2 ?_
  refine ay_e_loc (pc := 262) fe_240_262 rfl ?_
  refine ay_e_loc (pc := 263) fe_240_263 rfl ?_
  refine ay_e_stk (pc := 265) (S' := [.int 3, .int i, .ref am_scr, .int v2, .int v1, .ref 321]) fe_240_265 rfl ?_
  refine ay_e_stk (pc := 266) (S' := [.int (i + 3), .ref am_scr, .int v2, .int v1, .ref 321]) fe_240_266 rfl ?_
  refine ay_e_scr (pc := 267) (v := v3) fe_240_267 q3 e3 ?_
  refine ay_e_call (pc := 268) (v := some (.int b)) fe_240_268 (ay_args [.ref 321, .int v1, .int v2, .int v3] [] rfl rfl (Nat.le_of_ble_eq_true rfl) (Nat.le_of_ble_eq_true rfl)) (ay_rcvV at_321 rfl) hm ?_
  refine ay_e_loc (pc := 271) (L' := [some (.ref am_scr), some (.ref 0), some (.ref 321), some (.ref 329), some (.int i), some (.int k), some (.int b), none, none]) fe_240_271 rfl ?_
  refine ay_e_loc (pc := 273) fe_240_273 rfl ?_
  refine ay_e_call (pc := 274) (v := some (.int (D2 321 7))) fe_240_274 (ay_args [.ref 321] [] rfl rfl (Nat.le_of_ble_eq_true rfl) (Nat.le_of_ble_eq_true rfl)) (ay_rcvV at_321 rfl) ay_m35 ?_
  refine ay_e_loc (pc := 277) fe_240_277 rfl ?_
  refine ay_e_pos (pc := 279) ht fe_240_279 rfl ?_
  refine ay_e_loc (pc := 284) fe_240_284 rfl ?_
  by_cases hk : k = 0
  · refine ay_e_neg (pc := 286) (P := ¬ k = 0) (fun h => h hk) fe_240_286 rfl ?_
    refine ay_e_loc (pc := 289) fe_240_289 rfl ?_
    refine ay_e_stk (pc := 290) (S' := [.int 0, .ref 329]) fe_240_290 rfl ?_
    refine ay_e_lal (pc := 291) fe_240_291 ?_
    refine ay_e_loc (pc := 292) fe_240_292 rfl ?_
    refine ay_e_stk (pc := 294) (S' := [.long b.toInt64, .long (D2 329 0).toInt64]) fe_240_294 rfl ?_
    refine ay_e_stk (pc := 295) (S' := [.int (lg_cmp ((D2 329 0).toInt64) b.toInt64)]) fe_240_295 rfl ?_
    refine ay_e_pos (pc := 296) (P := lg_cmp (D2 329 0).toInt64 b.toInt64 = 0) (by rw [hz hk]; exact ay_cmp0 _) fe_240_296 rfl ?_
    refine ay_e_br (pc := 301) (pc' := 1743) fe_240_301 rfl ?_
    refine ay_e_loc (pc := 1743) (L' := [some (.ref am_scr), some (.ref 0), some (.ref 321), some (.ref 329), some (.int (i + 4)), some (.int k), some (.int b), none, none]) fe_240_1743 rfl ?_
    refine ay_e_br (pc := 1746) (pc' := 23) fe_240_1746 rfl ?_
    exact ay_e_end fe_240_23 (by decide)
  · refine ay_e_pos (pc := 286) (P := ¬ k = 0) hk fe_240_286 rfl ?_
    refine ay_e_br (pc := 301) (pc' := 1743) fe_240_301 rfl ?_
    refine ay_e_loc (pc := 1743) (L' := [some (.ref am_scr), some (.ref 0), some (.ref 321), some (.ref 329), some (.int (i + 4)), some (.int k), some (.int b), none, none]) fe_240_1743 rfl ?_
    refine ay_e_br (pc := 1746) (pc' := 23) fe_240_1746 rfl ?_
    exact ay_e_end fe_240_23 (by decide)
set_option maxHeartbeats 2000000 in
theorem lw_2 {n : Nat} {xs : Nat → Int32} {i v0 v1 v2 k b : Int32} {D D1 D2 : am_DD} {c1 s1 : Nat} (q0 : ¬ (i < 0 ∨ n ≤ i.toNatClampNeg)) (e0 : xs i.toNatClampNeg = v0) (q1 : ¬ ((i + 1) < 0 ∨ n ≤ (i + 1).toNatClampNeg)) (e1 : xs (i + 1).toNatClampNeg = v1) (q2 : ¬ ((i + 2) < 0 ∨ n ≤ (i + 2).toNatClampNeg)) (e2 : xs (i + 2).toNatClampNeg = v2) (hc : v0 &&& 31 = 2) (hw : ay_mc 53 [.ref 0, .int v1, .int v2, .ref 329] D (some (.int k)) D1 c1 s1) (hm : ay_mo 54 [.ref 321, .int v1, .int v2] D1 (.inl (some (.int b))) D2) (ht : D2 321 7 = k) (hz : k = 0 → D2 329 0 = b) : ay_lw n xs i D D2 c1 s1 := by
  refine ⟨some (.int k), some (.int b), none, none, ?_⟩
  refine ay_e_loc (pc := 32) fe_240_32 rfl ?_
  refine ay_e_loc (pc := 33) fe_240_33 rfl ?_
  refine ay_e_scr (pc := 35) (v := v0) fe_240_35 q0 e0 ?_
  refine ay_e_stk (pc := 36) (S' := [.int 31, .int v0]) fe_240_36 rfl ?_
  refine ay_e_stk (pc := 38) (S' := [.int (v0 &&& 31)]) fe_240_38 rfl ?_
  refine ay_e_br (pc := 39) (pc' := 304) (S' := []) fe_240_39 (by rw [hc]; rfl) ?_
  refine ay_e_loc (pc := 304) fe_240_304 rfl ?_
  refine ay_e_loc (pc := 305) fe_240_305 rfl ?_
  refine ay_e_loc (pc := 306) fe_240_306 rfl ?_
  refine ay_e_stk (pc := 308) (S' := [.int 1, .int i, .ref am_scr, .ref 0]) fe_240_308 rfl ?_
  refine ay_e_stk (pc := 309) (S' := [.int (i + 1), .ref am_scr, .ref 0]) fe_240_309 rfl ?_
  refine ay_e_scr (pc := 310) (v := v1) fe_240_310 q1 e1 ?_
  refine ay_e_loc (pc := 311) fe_240_311 rfl ?_
  refine ay_e_loc (pc := 312) fe_240_312 rfl ?_
  refine ay_e_stk (pc := 314) (S' := [.int 2, .int i, .ref am_scr, .int v1, .ref 0]) fe_240_314 rfl ?_
  refine ay_e_stk (pc := 315) (S' := [.int (i + 2), .ref am_scr, .int v1, .ref 0]) fe_240_315 rfl ?_
  refine ay_e_scr (pc := 316) (v := v2) fe_240_316 q2 e2 ?_
  refine ay_e_loc (pc := 317) fe_240_317 rfl ?_
  refine ay_e_callC (pc := 318) (c := 0) (s := 0) fe_240_318 (ay_args [.ref 0, .int v1, .int v2, .ref 329] [] rfl rfl (Nat.le_of_ble_eq_true rfl) (Nat.le_of_ble_eq_true rfl)) rfl hw ?_
  refine ay_e_loc (pc := 321) (L' := [some (.ref am_scr), some (.ref 0), some (.ref 321), some (.ref 329), some (.int i), some (.int k), none, none, none]) fe_240_321 rfl ?_
  refine ay_e_loc (pc := 323) fe_240_323 rfl ?_
  refine ay_e_loc (pc := 324) fe_240_324 rfl ?_
  refine ay_e_loc (pc := 325) fe_240_325 rfl ?_
  refine ay_e_stk (pc := 327) (S' := [.int 1, .int i, .ref am_scr, .ref 321]) fe_240_327 rfl ?_
  refine ay_e_stk (pc := 328) (S' := [.int (i + 1), .ref am_scr, .ref 321]) fe_240_328 rfl ?_
  refine ay_e_scr (pc := 329) (v := v1) fe_240_329 q1 e1 ?_
  refine ay_e_loc (pc := 330) fe_240_330 rfl ?_
  refine ay_e_loc (pc := 331) fe_240_331 rfl ?_
  refine ay_e_stk (pc := 333) (S' := [.int 2, .int i, .ref am_scr, .int v1, .ref 321]) fe_240_333 rfl ?_
  refine ay_e_stk (pc := 334) (S' := [.int (i + 2), .ref am_scr, .int v1, .ref 321]) fe_240_334 rfl ?_
  refine ay_e_scr (pc := 335) (v := v2) fe_240_335 q2 e2 ?_
  refine ay_e_call (pc := 336) (v := some (.int b)) fe_240_336 (ay_args [.ref 321, .int v1, .int v2] [] rfl rfl (Nat.le_of_ble_eq_true rfl) (Nat.le_of_ble_eq_true rfl)) (ay_rcvV at_321 rfl) hm ?_
  refine ay_e_loc (pc := 339) (L' := [some (.ref am_scr), some (.ref 0), some (.ref 321), some (.ref 329), some (.int i), some (.int k), some (.int b), none, none]) fe_240_339 rfl ?_
  refine ay_e_loc (pc := 341) fe_240_341 rfl ?_
  refine ay_e_call (pc := 342) (v := some (.int (D2 321 7))) fe_240_342 (ay_args [.ref 321] [] rfl rfl (Nat.le_of_ble_eq_true rfl) (Nat.le_of_ble_eq_true rfl)) (ay_rcvV at_321 rfl) ay_m35 ?_
  refine ay_e_loc (pc := 345) fe_240_345 rfl ?_
  refine ay_e_pos (pc := 347) ht fe_240_347 rfl ?_
  refine ay_e_loc (pc := 352) fe_240_352 rfl ?_
  by_cases hk : k = 0
  · refine ay_e_neg (pc := 354) (P := ¬ k = 0) (fun h => h hk) fe_240_354 rfl ?_
    refine ay_e_loc (pc := 357) fe_240_357 rfl ?_
    refine ay_e_stk (pc := 358) (S' := [.int 0, .ref 329]) fe_240_358 rfl ?_
    refine ay_e_lal (pc := 359) fe_240_359 ?_
    refine ay_e_loc (pc := 360) fe_240_360 rfl ?_
    refine ay_e_stk (pc := 362) (S' := [.long b.toInt64, .long (D2 329 0).toInt64]) fe_240_362 rfl ?_
    refine ay_e_stk (pc := 363) (S' := [.int (lg_cmp ((D2 329 0).toInt64) b.toInt64)]) fe_240_363 rfl ?_
    refine ay_e_pos (pc := 364) (P := lg_cmp (D2 329 0).toInt64 b.toInt64 = 0) (by rw [hz hk]; exact ay_cmp0 _) fe_240_364 rfl ?_
    refine ay_e_br (pc := 369) (pc' := 1743) fe_240_369 rfl ?_
    refine ay_e_loc (pc := 1743) (L' := [some (.ref am_scr), some (.ref 0), some (.ref 321), some (.ref 329), some (.int (i + 4)), some (.int k), some (.int b), none, none]) fe_240_1743 rfl ?_
    refine ay_e_br (pc := 1746) (pc' := 23) fe_240_1746 rfl ?_
    exact ay_e_end fe_240_23 (by decide)
  · refine ay_e_pos (pc := 354) (P := ¬ k = 0) hk fe_240_354 rfl ?_
    refine ay_e_br (pc := 369) (pc' := 1743) fe_240_369 rfl ?_
    refine ay_e_loc (pc := 1743) (L' := [some (.ref am_scr), some (.ref 0), some (.ref 321), some (.ref 329), some (.int (i + 4)), some (.int k), some (.int b), none, none]) fe_240_1743 rfl ?_
    refine ay_e_br (pc := 1746) (pc' := 23) fe_240_1746 rfl ?_
    exact ay_e_end fe_240_23 (by decide)
set_option maxHeartbeats 2000000 in
theorem lw_3 {n : Nat} {xs : Nat → Int32} {i v0 v1 k b : Int32} {D D1 D2 : am_DD} {c1 s1 : Nat} (q0 : ¬ (i < 0 ∨ n ≤ i.toNatClampNeg)) (e0 : xs i.toNatClampNeg = v0) (q1 : ¬ ((i + 1) < 0 ∨ n ≤ (i + 1).toNatClampNeg)) (e1 : xs (i + 1).toNatClampNeg = v1) (hc : v0 &&& 31 = 3) (hw : ay_mc 58 [.ref 0, .int v1, .ref 329] D (some (.int k)) D1 c1 s1) (hm : ay_mo 60 [.ref 321, .int v1] D1 (.inl (some (.int b))) D2) (ht : D2 321 7 = k) (hz : k = 0 → D2 329 0 = b) : ay_lw n xs i D D2 c1 s1 := by
  refine ⟨some (.int k), some (.int b), none, none, ?_⟩
  refine ay_e_loc (pc := 32) fe_240_32 rfl ?_
  refine ay_e_loc (pc := 33) fe_240_33 rfl ?_
  refine ay_e_scr (pc := 35) (v := v0) fe_240_35 q0 e0 ?_
  refine ay_e_stk (pc := 36) (S' := [.int 31, .int v0]) fe_240_36 rfl ?_
  refine ay_e_stk (pc := 38) (S' := [.int (v0 &&& 31)]) fe_240_38 rfl ?_
  refine ay_e_br (pc := 39) (pc' := 372) (S' := []) fe_240_39 (by rw [hc]; rfl) ?_
  refine ay_e_loc (pc := 372) fe_240_372 rfl ?_
  refine ay_e_loc (pc := 373) fe_240_373 rfl ?_
  refine ay_e_loc (pc := 374) fe_240_374 rfl ?_
  refine ay_e_stk (pc := 376) (S' := [.int 1, .int i, .ref am_scr, .ref 0]) fe_240_376 rfl ?_
  refine ay_e_stk (pc := 377) (S' := [.int (i + 1), .ref am_scr, .ref 0]) fe_240_377 rfl ?_
  refine ay_e_scr (pc := 378) (v := v1) fe_240_378 q1 e1 ?_
  refine ay_e_loc (pc := 379) fe_240_379 rfl ?_
  refine ay_e_callC (pc := 380) (c := 0) (s := 0) fe_240_380 (ay_args [.ref 0, .int v1, .ref 329] [] rfl rfl (Nat.le_of_ble_eq_true rfl) (Nat.le_of_ble_eq_true rfl)) rfl hw ?_
  refine ay_e_loc (pc := 383) (L' := [some (.ref am_scr), some (.ref 0), some (.ref 321), some (.ref 329), some (.int i), some (.int k), none, none, none]) fe_240_383 rfl ?_
  refine ay_e_loc (pc := 385) fe_240_385 rfl ?_
  refine ay_e_loc (pc := 386) fe_240_386 rfl ?_
  refine ay_e_loc (pc := 387) fe_240_387 rfl ?_
  refine ay_e_stk (pc := 389) (S' := [.int 1, .int i, .ref am_scr, .ref 321]) fe_240_389 rfl ?_
  refine ay_e_stk (pc := 390) (S' := [.int (i + 1), .ref am_scr, .ref 321]) fe_240_390 rfl ?_
  refine ay_e_scr (pc := 391) (v := v1) fe_240_391 q1 e1 ?_
  refine ay_e_call (pc := 392) (v := some (.int b)) fe_240_392 (ay_args [.ref 321, .int v1] [] rfl rfl (Nat.le_of_ble_eq_true rfl) (Nat.le_of_ble_eq_true rfl)) (ay_rcvV at_321 rfl) hm ?_
  refine ay_e_loc (pc := 395) (L' := [some (.ref am_scr), some (.ref 0), some (.ref 321), some (.ref 329), some (.int i), some (.int k), some (.int b), none, none]) fe_240_395 rfl ?_
  refine ay_e_loc (pc := 397) fe_240_397 rfl ?_
  refine ay_e_call (pc := 398) (v := some (.int (D2 321 7))) fe_240_398 (ay_args [.ref 321] [] rfl rfl (Nat.le_of_ble_eq_true rfl) (Nat.le_of_ble_eq_true rfl)) (ay_rcvV at_321 rfl) ay_m35 ?_
  refine ay_e_loc (pc := 401) fe_240_401 rfl ?_
  refine ay_e_pos (pc := 403) ht fe_240_403 rfl ?_
  refine ay_e_loc (pc := 408) fe_240_408 rfl ?_
  by_cases hk : k = 0
  · refine ay_e_neg (pc := 410) (P := ¬ k = 0) (fun h => h hk) fe_240_410 rfl ?_
    refine ay_e_loc (pc := 413) fe_240_413 rfl ?_
    refine ay_e_stk (pc := 414) (S' := [.int 0, .ref 329]) fe_240_414 rfl ?_
    refine ay_e_lal (pc := 415) fe_240_415 ?_
    refine ay_e_loc (pc := 416) fe_240_416 rfl ?_
    refine ay_e_stk (pc := 418) (S' := [.long b.toInt64, .long (D2 329 0).toInt64]) fe_240_418 rfl ?_
    refine ay_e_stk (pc := 419) (S' := [.int (lg_cmp ((D2 329 0).toInt64) b.toInt64)]) fe_240_419 rfl ?_
    refine ay_e_pos (pc := 420) (P := lg_cmp (D2 329 0).toInt64 b.toInt64 = 0) (by rw [hz hk]; exact ay_cmp0 _) fe_240_420 rfl ?_
    refine ay_e_br (pc := 425) (pc' := 1743) fe_240_425 rfl ?_
    refine ay_e_loc (pc := 1743) (L' := [some (.ref am_scr), some (.ref 0), some (.ref 321), some (.ref 329), some (.int (i + 4)), some (.int k), some (.int b), none, none]) fe_240_1743 rfl ?_
    refine ay_e_br (pc := 1746) (pc' := 23) fe_240_1746 rfl ?_
    exact ay_e_end fe_240_23 (by decide)
  · refine ay_e_pos (pc := 410) (P := ¬ k = 0) hk fe_240_410 rfl ?_
    refine ay_e_br (pc := 425) (pc' := 1743) fe_240_425 rfl ?_
    refine ay_e_loc (pc := 1743) (L' := [some (.ref am_scr), some (.ref 0), some (.ref 321), some (.ref 329), some (.int (i + 4)), some (.int k), some (.int b), none, none]) fe_240_1743 rfl ?_
    refine ay_e_br (pc := 1746) (pc' := 23) fe_240_1746 rfl ?_
    exact ay_e_end fe_240_23 (by decide)
set_option maxHeartbeats 2000000 in
theorem lw_4 {n : Nat} {xs : Nat → Int32} {i v0 v1 v2 k b : Int32} {D D1 D2 : am_DD} {c1 s1 : Nat} (q0 : ¬ (i < 0 ∨ n ≤ i.toNatClampNeg)) (e0 : xs i.toNatClampNeg = v0) (q1 : ¬ ((i + 1) < 0 ∨ n ≤ (i + 1).toNatClampNeg)) (e1 : xs (i + 1).toNatClampNeg = v1) (q2 : ¬ ((i + 2) < 0 ∨ n ≤ (i + 2).toNatClampNeg)) (e2 : xs (i + 2).toNatClampNeg = v2) (hc : v0 &&& 31 = 4) (hw : ay_mc 62 [.ref 0, .int v1, .int v2, .ref 329] D (some (.int k)) D1 c1 s1) (hm : ay_mo 63 [.ref 321, .int v1, .int v2] D1 (.inl (some (.int b))) D2) (ht : D2 321 7 = k) (hz : k = 0 → D2 329 0 = b) : ay_lw n xs i D D2 c1 s1 := by
  refine ⟨some (.int k), some (.int b), none, none, ?_⟩
  refine ay_e_loc (pc := 32) fe_240_32 rfl ?_
  refine ay_e_loc (pc := 33) fe_240_33 rfl ?_
  refine ay_e_scr (pc := 35) (v := v0) fe_240_35 q0 e0 ?_
  refine ay_e_stk (pc := 36) (S' := [.int 31, .int v0]) fe_240_36 rfl ?_
  refine ay_e_stk (pc := 38) (S' := [.int (v0 &&& 31)]) fe_240_38 rfl ?_
  refine ay_e_br (pc := 39) (pc' := 428) (S' := []) fe_240_39 (by rw [hc]; rfl) ?_
  refine ay_e_loc (pc := 428) fe_240_428 rfl ?_
  refine ay_e_loc (pc := 429) fe_240_429 rfl ?_
  refine ay_e_loc (pc := 430) fe_240_430 rfl ?_
  refine ay_e_stk (pc := 432) (S' := [.int 1, .int i, .ref am_scr, .ref 0]) fe_240_432 rfl ?_
  refine ay_e_stk (pc := 433) (S' := [.int (i + 1), .ref am_scr, .ref 0]) fe_240_433 rfl ?_
  refine ay_e_scr (pc := 434) (v := v1) fe_240_434 q1 e1 ?_
  refine ay_e_loc (pc := 435) fe_240_435 rfl ?_
  refine ay_e_loc (pc := 436) fe_240_436 rfl ?_
  refine ay_e_stk (pc := 438) (S' := [.int 2, .int i, .ref am_scr, .int v1, .ref 0]) fe_240_438 rfl ?_
  refine ay_e_stk (pc := 439) (S' := [.int (i + 2), .ref am_scr, .int v1, .ref 0]) fe_240_439 rfl ?_
  refine ay_e_scr (pc := 440) (v := v2) fe_240_440 q2 e2 ?_
  refine ay_e_loc (pc := 441) fe_240_441 rfl ?_
  refine ay_e_callC (pc := 442) (c := 0) (s := 0) fe_240_442 (ay_args [.ref 0, .int v1, .int v2, .ref 329] [] rfl rfl (Nat.le_of_ble_eq_true rfl) (Nat.le_of_ble_eq_true rfl)) rfl hw ?_
  refine ay_e_loc (pc := 445) (L' := [some (.ref am_scr), some (.ref 0), some (.ref 321), some (.ref 329), some (.int i), some (.int k), none, none, none]) fe_240_445 rfl ?_
  refine ay_e_loc (pc := 447) fe_240_447 rfl ?_
  refine ay_e_loc (pc := 448) fe_240_448 rfl ?_
  refine ay_e_loc (pc := 449) fe_240_449 rfl ?_
  refine ay_e_stk (pc := 451) (S' := [.int 1, .int i, .ref am_scr, .ref 321]) fe_240_451 rfl ?_
  refine ay_e_stk (pc := 452) (S' := [.int (i + 1), .ref am_scr, .ref 321]) fe_240_452 rfl ?_
  refine ay_e_scr (pc := 453) (v := v1) fe_240_453 q1 e1 ?_
  refine ay_e_loc (pc := 454) fe_240_454 rfl ?_
  refine ay_e_loc (pc := 455) fe_240_455 rfl ?_
  refine ay_e_stk (pc := 457) (S' := [.int 2, .int i, .ref am_scr, .int v1, .ref 321]) fe_240_457 rfl ?_
  refine ay_e_stk (pc := 458) (S' := [.int (i + 2), .ref am_scr, .int v1, .ref 321]) fe_240_458 rfl ?_
  refine ay_e_scr (pc := 459) (v := v2) fe_240_459 q2 e2 ?_
  refine ay_e_call (pc := 460) (v := some (.int b)) fe_240_460 (ay_args [.ref 321, .int v1, .int v2] [] rfl rfl (Nat.le_of_ble_eq_true rfl) (Nat.le_of_ble_eq_true rfl)) (ay_rcvV at_321 rfl) hm ?_
  refine ay_e_loc (pc := 463) (L' := [some (.ref am_scr), some (.ref 0), some (.ref 321), some (.ref 329), some (.int i), some (.int k), some (.int b), none, none]) fe_240_463 rfl ?_
  refine ay_e_loc (pc := 465) fe_240_465 rfl ?_
  refine ay_e_call (pc := 466) (v := some (.int (D2 321 7))) fe_240_466 (ay_args [.ref 321] [] rfl rfl (Nat.le_of_ble_eq_true rfl) (Nat.le_of_ble_eq_true rfl)) (ay_rcvV at_321 rfl) ay_m35 ?_
  refine ay_e_loc (pc := 469) fe_240_469 rfl ?_
  refine ay_e_pos (pc := 471) ht fe_240_471 rfl ?_
  refine ay_e_loc (pc := 476) fe_240_476 rfl ?_
  by_cases hk : k = 0
  · refine ay_e_neg (pc := 478) (P := ¬ k = 0) (fun h => h hk) fe_240_478 rfl ?_
    refine ay_e_loc (pc := 481) fe_240_481 rfl ?_
    refine ay_e_stk (pc := 482) (S' := [.int 0, .ref 329]) fe_240_482 rfl ?_
    refine ay_e_lal (pc := 483) fe_240_483 ?_
    refine ay_e_loc (pc := 484) fe_240_484 rfl ?_
    refine ay_e_stk (pc := 486) (S' := [.long b.toInt64, .long (D2 329 0).toInt64]) fe_240_486 rfl ?_
    refine ay_e_stk (pc := 487) (S' := [.int (lg_cmp ((D2 329 0).toInt64) b.toInt64)]) fe_240_487 rfl ?_
    refine ay_e_pos (pc := 488) (P := lg_cmp (D2 329 0).toInt64 b.toInt64 = 0) (by rw [hz hk]; exact ay_cmp0 _) fe_240_488 rfl ?_
    refine ay_e_br (pc := 493) (pc' := 1743) fe_240_493 rfl ?_
    refine ay_e_loc (pc := 1743) (L' := [some (.ref am_scr), some (.ref 0), some (.ref 321), some (.ref 329), some (.int (i + 4)), some (.int k), some (.int b), none, none]) fe_240_1743 rfl ?_
    refine ay_e_br (pc := 1746) (pc' := 23) fe_240_1746 rfl ?_
    exact ay_e_end fe_240_23 (by decide)
  · refine ay_e_pos (pc := 478) (P := ¬ k = 0) hk fe_240_478 rfl ?_
    refine ay_e_br (pc := 493) (pc' := 1743) fe_240_493 rfl ?_
    refine ay_e_loc (pc := 1743) (L' := [some (.ref am_scr), some (.ref 0), some (.ref 321), some (.ref 329), some (.int (i + 4)), some (.int k), some (.int b), none, none]) fe_240_1743 rfl ?_
    refine ay_e_br (pc := 1746) (pc' := 23) fe_240_1746 rfl ?_
    exact ay_e_end fe_240_23 (by decide)
set_option maxHeartbeats 2000000 in
theorem lw_5 {n : Nat} {xs : Nat → Int32} {i v0 v1 k b : Int32} {D D1 D2 : am_DD} {c1 s1 : Nat} (q0 : ¬ (i < 0 ∨ n ≤ i.toNatClampNeg)) (e0 : xs i.toNatClampNeg = v0) (q1 : ¬ ((i + 1) < 0 ∨ n ≤ (i + 1).toNatClampNeg)) (e1 : xs (i + 1).toNatClampNeg = v1) (hc : v0 &&& 31 = 5) (hw : ay_mc 67 [.ref 0, .int v1, .ref 329] D (some (.int k)) D1 c1 s1) (hm : ay_mo 70 [.ref 321, .int v1] D1 (.inl (some (.int b))) D2) (ht : D2 321 7 = k) (hz : k = 0 → D2 329 0 = b) : ay_lw n xs i D D2 c1 s1 := by
  refine ⟨some (.int k), some (.int b), none, none, ?_⟩
  refine ay_e_loc (pc := 32) fe_240_32 rfl ?_
  refine ay_e_loc (pc := 33) fe_240_33 rfl ?_
  refine ay_e_scr (pc := 35) (v := v0) fe_240_35 q0 e0 ?_
  refine ay_e_stk (pc := 36) (S' := [.int 31, .int v0]) fe_240_36 rfl ?_
  refine ay_e_stk (pc := 38) (S' := [.int (v0 &&& 31)]) fe_240_38 rfl ?_
  refine ay_e_br (pc := 39) (pc' := 496) (S' := []) fe_240_39 (by rw [hc]; rfl) ?_
  refine ay_e_loc (pc := 496) fe_240_496 rfl ?_
  refine ay_e_loc (pc := 497) fe_240_497 rfl ?_
  refine ay_e_loc (pc := 498) fe_240_498 rfl ?_
  refine ay_e_stk (pc := 500) (S' := [.int 1, .int i, .ref am_scr, .ref 0]) fe_240_500 rfl ?_
  refine ay_e_stk (pc := 501) (S' := [.int (i + 1), .ref am_scr, .ref 0]) fe_240_501 rfl ?_
  refine ay_e_scr (pc := 502) (v := v1) fe_240_502 q1 e1 ?_
  refine ay_e_loc (pc := 503) fe_240_503 rfl ?_
  refine ay_e_callC (pc := 504) (c := 0) (s := 0) fe_240_504 (ay_args [.ref 0, .int v1, .ref 329] [] rfl rfl (Nat.le_of_ble_eq_true rfl) (Nat.le_of_ble_eq_true rfl)) rfl hw ?_
  refine ay_e_loc (pc := 507) (L' := [some (.ref am_scr), some (.ref 0), some (.ref 321), some (.ref 329), some (.int i), some (.int k), none, none, none]) fe_240_507 rfl ?_
  refine ay_e_loc (pc := 509) fe_240_509 rfl ?_
  refine ay_e_loc (pc := 510) fe_240_510 rfl ?_
  refine ay_e_loc (pc := 511) fe_240_511 rfl ?_
  refine ay_e_stk (pc := 513) (S' := [.int 1, .int i, .ref am_scr, .ref 321]) fe_240_513 rfl ?_
  refine ay_e_stk (pc := 514) (S' := [.int (i + 1), .ref am_scr, .ref 321]) fe_240_514 rfl ?_
  refine ay_e_scr (pc := 515) (v := v1) fe_240_515 q1 e1 ?_
  refine ay_e_call (pc := 516) (v := some (.int b)) fe_240_516 (ay_args [.ref 321, .int v1] [] rfl rfl (Nat.le_of_ble_eq_true rfl) (Nat.le_of_ble_eq_true rfl)) (ay_rcvV at_321 rfl) hm ?_
  refine ay_e_loc (pc := 519) (L' := [some (.ref am_scr), some (.ref 0), some (.ref 321), some (.ref 329), some (.int i), some (.int k), some (.int b), none, none]) fe_240_519 rfl ?_
  refine ay_e_loc (pc := 521) fe_240_521 rfl ?_
  refine ay_e_call (pc := 522) (v := some (.int (D2 321 7))) fe_240_522 (ay_args [.ref 321] [] rfl rfl (Nat.le_of_ble_eq_true rfl) (Nat.le_of_ble_eq_true rfl)) (ay_rcvV at_321 rfl) ay_m35 ?_
  refine ay_e_loc (pc := 525) fe_240_525 rfl ?_
  refine ay_e_pos (pc := 527) ht fe_240_527 rfl ?_
  refine ay_e_loc (pc := 532) fe_240_532 rfl ?_
  by_cases hk : k = 0
  · refine ay_e_neg (pc := 534) (P := ¬ k = 0) (fun h => h hk) fe_240_534 rfl ?_
    refine ay_e_loc (pc := 537) fe_240_537 rfl ?_
    refine ay_e_stk (pc := 538) (S' := [.int 0, .ref 329]) fe_240_538 rfl ?_
    refine ay_e_lal (pc := 539) fe_240_539 ?_
    refine ay_e_loc (pc := 540) fe_240_540 rfl ?_
    refine ay_e_stk (pc := 542) (S' := [.long b.toInt64, .long (D2 329 0).toInt64]) fe_240_542 rfl ?_
    refine ay_e_stk (pc := 543) (S' := [.int (lg_cmp ((D2 329 0).toInt64) b.toInt64)]) fe_240_543 rfl ?_
    refine ay_e_pos (pc := 544) (P := lg_cmp (D2 329 0).toInt64 b.toInt64 = 0) (by rw [hz hk]; exact ay_cmp0 _) fe_240_544 rfl ?_
    refine ay_e_br (pc := 549) (pc' := 1743) fe_240_549 rfl ?_
    refine ay_e_loc (pc := 1743) (L' := [some (.ref am_scr), some (.ref 0), some (.ref 321), some (.ref 329), some (.int (i + 4)), some (.int k), some (.int b), none, none]) fe_240_1743 rfl ?_
    refine ay_e_br (pc := 1746) (pc' := 23) fe_240_1746 rfl ?_
    exact ay_e_end fe_240_23 (by decide)
  · refine ay_e_pos (pc := 534) (P := ¬ k = 0) hk fe_240_534 rfl ?_
    refine ay_e_br (pc := 549) (pc' := 1743) fe_240_549 rfl ?_
    refine ay_e_loc (pc := 1743) (L' := [some (.ref am_scr), some (.ref 0), some (.ref 321), some (.ref 329), some (.int (i + 4)), some (.int k), some (.int b), none, none]) fe_240_1743 rfl ?_
    refine ay_e_br (pc := 1746) (pc' := 23) fe_240_1746 rfl ?_
    exact ay_e_end fe_240_23 (by decide)
set_option maxHeartbeats 2000000 in
theorem lw_6 {n : Nat} {xs : Nat → Int32} {i v0 v1 k b : Int32} {D D1 D2 : am_DD} {c1 s1 : Nat} (q0 : ¬ (i < 0 ∨ n ≤ i.toNatClampNeg)) (e0 : xs i.toNatClampNeg = v0) (q1 : ¬ ((i + 1) < 0 ∨ n ≤ (i + 1).toNatClampNeg)) (e1 : xs (i + 1).toNatClampNeg = v1) (hc : v0 &&& 31 = 6) (hw : ay_mc 82 [.ref 0, .int v1, .ref 329] D (some (.int k)) D1 c1 s1) (hm : ay_mo 90 [.ref 321, .int v1] D1 (.inl (some (.int b))) D2) (ht : D2 321 7 = k) (hz : k = 0 → D2 329 0 = b) : ay_lw n xs i D D2 c1 s1 := by
  refine ⟨some (.int k), some (.int b), none, none, ?_⟩
  refine ay_e_loc (pc := 32) fe_240_32 rfl ?_
  refine ay_e_loc (pc := 33) fe_240_33 rfl ?_
  refine ay_e_scr (pc := 35) (v := v0) fe_240_35 q0 e0 ?_
  refine ay_e_stk (pc := 36) (S' := [.int 31, .int v0]) fe_240_36 rfl ?_
  refine ay_e_stk (pc := 38) (S' := [.int (v0 &&& 31)]) fe_240_38 rfl ?_
  refine ay_e_br (pc := 39) (pc' := 552) (S' := []) fe_240_39 (by rw [hc]; rfl) ?_
  refine ay_e_loc (pc := 552) fe_240_552 rfl ?_
  refine ay_e_loc (pc := 553) fe_240_553 rfl ?_
  refine ay_e_loc (pc := 554) fe_240_554 rfl ?_
  refine ay_e_stk (pc := 556) (S' := [.int 1, .int i, .ref am_scr, .ref 0]) fe_240_556 rfl ?_
  refine ay_e_stk (pc := 557) (S' := [.int (i + 1), .ref am_scr, .ref 0]) fe_240_557 rfl ?_
  refine ay_e_scr (pc := 558) (v := v1) fe_240_558 q1 e1 ?_
  refine ay_e_loc (pc := 559) fe_240_559 rfl ?_
  refine ay_e_callC (pc := 560) (c := 0) (s := 0) fe_240_560 (ay_args [.ref 0, .int v1, .ref 329] [] rfl rfl (Nat.le_of_ble_eq_true rfl) (Nat.le_of_ble_eq_true rfl)) rfl hw ?_
  refine ay_e_loc (pc := 563) (L' := [some (.ref am_scr), some (.ref 0), some (.ref 321), some (.ref 329), some (.int i), some (.int k), none, none, none]) fe_240_563 rfl ?_
  refine ay_e_loc (pc := 565) fe_240_565 rfl ?_
  refine ay_e_loc (pc := 566) fe_240_566 rfl ?_
  refine ay_e_loc (pc := 567) fe_240_567 rfl ?_
  refine ay_e_stk (pc := 569) (S' := [.int 1, .int i, .ref am_scr, .ref 321]) fe_240_569 rfl ?_
  refine ay_e_stk (pc := 570) (S' := [.int (i + 1), .ref am_scr, .ref 321]) fe_240_570 rfl ?_
  refine ay_e_scr (pc := 571) (v := v1) fe_240_571 q1 e1 ?_
  refine ay_e_call (pc := 572) (v := some (.int b)) fe_240_572 (ay_args [.ref 321, .int v1] [] rfl rfl (Nat.le_of_ble_eq_true rfl) (Nat.le_of_ble_eq_true rfl)) (ay_rcvV at_321 rfl) hm ?_
  refine ay_e_loc (pc := 575) (L' := [some (.ref am_scr), some (.ref 0), some (.ref 321), some (.ref 329), some (.int i), some (.int k), some (.int b), none, none]) fe_240_575 rfl ?_
  refine ay_e_loc (pc := 577) fe_240_577 rfl ?_
  refine ay_e_call (pc := 578) (v := some (.int (D2 321 7))) fe_240_578 (ay_args [.ref 321] [] rfl rfl (Nat.le_of_ble_eq_true rfl) (Nat.le_of_ble_eq_true rfl)) (ay_rcvV at_321 rfl) ay_m35 ?_
  refine ay_e_loc (pc := 581) fe_240_581 rfl ?_
  refine ay_e_pos (pc := 583) ht fe_240_583 rfl ?_
  refine ay_e_loc (pc := 588) fe_240_588 rfl ?_
  by_cases hk : k = 0
  · refine ay_e_neg (pc := 590) (P := ¬ k = 0) (fun h => h hk) fe_240_590 rfl ?_
    refine ay_e_loc (pc := 593) fe_240_593 rfl ?_
    refine ay_e_stk (pc := 594) (S' := [.int 0, .ref 329]) fe_240_594 rfl ?_
    refine ay_e_lal (pc := 595) fe_240_595 ?_
    refine ay_e_loc (pc := 596) fe_240_596 rfl ?_
    refine ay_e_stk (pc := 598) (S' := [.long b.toInt64, .long (D2 329 0).toInt64]) fe_240_598 rfl ?_
    refine ay_e_stk (pc := 599) (S' := [.int (lg_cmp ((D2 329 0).toInt64) b.toInt64)]) fe_240_599 rfl ?_
    refine ay_e_pos (pc := 600) (P := lg_cmp (D2 329 0).toInt64 b.toInt64 = 0) (by rw [hz hk]; exact ay_cmp0 _) fe_240_600 rfl ?_
    refine ay_e_br (pc := 605) (pc' := 1743) fe_240_605 rfl ?_
    refine ay_e_loc (pc := 1743) (L' := [some (.ref am_scr), some (.ref 0), some (.ref 321), some (.ref 329), some (.int (i + 4)), some (.int k), some (.int b), none, none]) fe_240_1743 rfl ?_
    refine ay_e_br (pc := 1746) (pc' := 23) fe_240_1746 rfl ?_
    exact ay_e_end fe_240_23 (by decide)
  · refine ay_e_pos (pc := 590) (P := ¬ k = 0) hk fe_240_590 rfl ?_
    refine ay_e_br (pc := 605) (pc' := 1743) fe_240_605 rfl ?_
    refine ay_e_loc (pc := 1743) (L' := [some (.ref am_scr), some (.ref 0), some (.ref 321), some (.ref 329), some (.int (i + 4)), some (.int k), some (.int b), none, none]) fe_240_1743 rfl ?_
    refine ay_e_br (pc := 1746) (pc' := 23) fe_240_1746 rfl ?_
    exact ay_e_end fe_240_23 (by decide)
set_option maxHeartbeats 2000000 in
theorem lw_7 {n : Nat} {xs : Nat → Int32} {i v0 v1 k b : Int32} {D D1 D2 : am_DD} {c1 s1 : Nat} (q0 : ¬ (i < 0 ∨ n ≤ i.toNatClampNeg)) (e0 : xs i.toNatClampNeg = v0) (q1 : ¬ ((i + 1) < 0 ∨ n ≤ (i + 1).toNatClampNeg)) (e1 : xs (i + 1).toNatClampNeg = v1) (hc : v0 &&& 31 = 7) (hw : ay_mc 94 [.ref 0, .int v1, .ref 329] D (some (.int k)) D1 c1 s1) (hm : ay_mo 95 [.ref 321, .int v1] D1 (.inl (some (.int b))) D2) (ht : D2 321 7 = k) (hz : k = 0 → D2 329 0 = b) : ay_lw n xs i D D2 c1 s1 := by
  refine ⟨some (.int k), some (.int b), none, none, ?_⟩
  refine ay_e_loc (pc := 32) fe_240_32 rfl ?_
  refine ay_e_loc (pc := 33) fe_240_33 rfl ?_
  refine ay_e_scr (pc := 35) (v := v0) fe_240_35 q0 e0 ?_
  refine ay_e_stk (pc := 36) (S' := [.int 31, .int v0]) fe_240_36 rfl ?_
  refine ay_e_stk (pc := 38) (S' := [.int (v0 &&& 31)]) fe_240_38 rfl ?_
  refine ay_e_br (pc := 39) (pc' := 608) (S' := []) fe_240_39 (by rw [hc]; rfl) ?_
  refine ay_e_loc (pc := 608) fe_240_608 rfl ?_
  refine ay_e_loc (pc := 609) fe_240_609 rfl ?_
  refine ay_e_loc (pc := 610) fe_240_610 rfl ?_
  refine ay_e_stk (pc := 612) (S' := [.int 1, .int i, .ref am_scr, .ref 0]) fe_240_612 rfl ?_
  refine ay_e_stk (pc := 613) (S' := [.int (i + 1), .ref am_scr, .ref 0]) fe_240_613 rfl ?_
  refine ay_e_scr (pc := 614) (v := v1) fe_240_614 q1 e1 ?_
  refine ay_e_loc (pc := 615) fe_240_615 rfl ?_
  refine ay_e_callC (pc := 616) (c := 0) (s := 0) fe_240_616 (ay_args [.ref 0, .int v1, .ref 329] [] rfl rfl (Nat.le_of_ble_eq_true rfl) (Nat.le_of_ble_eq_true rfl)) rfl hw ?_
  refine ay_e_loc (pc := 619) (L' := [some (.ref am_scr), some (.ref 0), some (.ref 321), some (.ref 329), some (.int i), some (.int k), none, none, none]) fe_240_619 rfl ?_
  refine ay_e_loc (pc := 621) fe_240_621 rfl ?_
  refine ay_e_loc (pc := 622) fe_240_622 rfl ?_
  refine ay_e_loc (pc := 623) fe_240_623 rfl ?_
  refine ay_e_stk (pc := 625) (S' := [.int 1, .int i, .ref am_scr, .ref 321]) fe_240_625 rfl ?_
  refine ay_e_stk (pc := 626) (S' := [.int (i + 1), .ref am_scr, .ref 321]) fe_240_626 rfl ?_
  refine ay_e_scr (pc := 627) (v := v1) fe_240_627 q1 e1 ?_
  refine ay_e_call (pc := 628) (v := some (.int b)) fe_240_628 (ay_args [.ref 321, .int v1] [] rfl rfl (Nat.le_of_ble_eq_true rfl) (Nat.le_of_ble_eq_true rfl)) (ay_rcvV at_321 rfl) hm ?_
  refine ay_e_loc (pc := 631) (L' := [some (.ref am_scr), some (.ref 0), some (.ref 321), some (.ref 329), some (.int i), some (.int k), some (.int b), none, none]) fe_240_631 rfl ?_
  refine ay_e_loc (pc := 633) fe_240_633 rfl ?_
  refine ay_e_call (pc := 634) (v := some (.int (D2 321 7))) fe_240_634 (ay_args [.ref 321] [] rfl rfl (Nat.le_of_ble_eq_true rfl) (Nat.le_of_ble_eq_true rfl)) (ay_rcvV at_321 rfl) ay_m35 ?_
  refine ay_e_loc (pc := 637) fe_240_637 rfl ?_
  refine ay_e_pos (pc := 639) ht fe_240_639 rfl ?_
  refine ay_e_loc (pc := 644) fe_240_644 rfl ?_
  by_cases hk : k = 0
  · refine ay_e_neg (pc := 646) (P := ¬ k = 0) (fun h => h hk) fe_240_646 rfl ?_
    refine ay_e_loc (pc := 649) fe_240_649 rfl ?_
    refine ay_e_stk (pc := 650) (S' := [.int 0, .ref 329]) fe_240_650 rfl ?_
    refine ay_e_lal (pc := 651) fe_240_651 ?_
    refine ay_e_loc (pc := 652) fe_240_652 rfl ?_
    refine ay_e_stk (pc := 654) (S' := [.long b.toInt64, .long (D2 329 0).toInt64]) fe_240_654 rfl ?_
    refine ay_e_stk (pc := 655) (S' := [.int (lg_cmp ((D2 329 0).toInt64) b.toInt64)]) fe_240_655 rfl ?_
    refine ay_e_pos (pc := 656) (P := lg_cmp (D2 329 0).toInt64 b.toInt64 = 0) (by rw [hz hk]; exact ay_cmp0 _) fe_240_656 rfl ?_
    refine ay_e_br (pc := 661) (pc' := 1743) fe_240_661 rfl ?_
    refine ay_e_loc (pc := 1743) (L' := [some (.ref am_scr), some (.ref 0), some (.ref 321), some (.ref 329), some (.int (i + 4)), some (.int k), some (.int b), none, none]) fe_240_1743 rfl ?_
    refine ay_e_br (pc := 1746) (pc' := 23) fe_240_1746 rfl ?_
    exact ay_e_end fe_240_23 (by decide)
  · refine ay_e_pos (pc := 646) (P := ¬ k = 0) hk fe_240_646 rfl ?_
    refine ay_e_br (pc := 661) (pc' := 1743) fe_240_661 rfl ?_
    refine ay_e_loc (pc := 1743) (L' := [some (.ref am_scr), some (.ref 0), some (.ref 321), some (.ref 329), some (.int (i + 4)), some (.int k), some (.int b), none, none]) fe_240_1743 rfl ?_
    refine ay_e_br (pc := 1746) (pc' := 23) fe_240_1746 rfl ?_
    exact ay_e_end fe_240_23 (by decide)
set_option maxHeartbeats 2000000 in
theorem lw_8 {n : Nat} {xs : Nat → Int32} {i v0 v1 k b : Int32} {D D1 D2 : am_DD} {c1 s1 : Nat} (q0 : ¬ (i < 0 ∨ n ≤ i.toNatClampNeg)) (e0 : xs i.toNatClampNeg = v0) (q1 : ¬ ((i + 1) < 0 ∨ n ≤ (i + 1).toNatClampNeg)) (e1 : xs (i + 1).toNatClampNeg = v1) (hc : v0 &&& 31 = 8) (hw : ay_mc 99 [.ref 0, .int v1, .ref 329] D (some (.int k)) D1 c1 s1) (hm : ay_mo 100 [.ref 321, .int v1] D1 (.inl (some (.int b))) D2) (ht : D2 321 7 = k) (hz : k = 0 → D2 329 0 = b) : ay_lw n xs i D D2 c1 s1 := by
  refine ⟨some (.int k), some (.int b), none, none, ?_⟩
  refine ay_e_loc (pc := 32) fe_240_32 rfl ?_
  refine ay_e_loc (pc := 33) fe_240_33 rfl ?_
  refine ay_e_scr (pc := 35) (v := v0) fe_240_35 q0 e0 ?_
  refine ay_e_stk (pc := 36) (S' := [.int 31, .int v0]) fe_240_36 rfl ?_
  refine ay_e_stk (pc := 38) (S' := [.int (v0 &&& 31)]) fe_240_38 rfl ?_
  refine ay_e_br (pc := 39) (pc' := 664) (S' := []) fe_240_39 (by rw [hc]; rfl) ?_
  refine ay_e_loc (pc := 664) fe_240_664 rfl ?_
  refine ay_e_loc (pc := 665) fe_240_665 rfl ?_
  refine ay_e_loc (pc := 666) fe_240_666 rfl ?_
  refine ay_e_stk (pc := 668) (S' := [.int 1, .int i, .ref am_scr, .ref 0]) fe_240_668 rfl ?_
  refine ay_e_stk (pc := 669) (S' := [.int (i + 1), .ref am_scr, .ref 0]) fe_240_669 rfl ?_
  refine ay_e_scr (pc := 670) (v := v1) fe_240_670 q1 e1 ?_
  refine ay_e_loc (pc := 671) fe_240_671 rfl ?_
  refine ay_e_callC (pc := 672) (c := 0) (s := 0) fe_240_672 (ay_args [.ref 0, .int v1, .ref 329] [] rfl rfl (Nat.le_of_ble_eq_true rfl) (Nat.le_of_ble_eq_true rfl)) rfl hw ?_
  refine ay_e_loc (pc := 675) (L' := [some (.ref am_scr), some (.ref 0), some (.ref 321), some (.ref 329), some (.int i), some (.int k), none, none, none]) fe_240_675 rfl ?_
  refine ay_e_loc (pc := 677) fe_240_677 rfl ?_
  refine ay_e_loc (pc := 678) fe_240_678 rfl ?_
  refine ay_e_loc (pc := 679) fe_240_679 rfl ?_
  refine ay_e_stk (pc := 681) (S' := [.int 1, .int i, .ref am_scr, .ref 321]) fe_240_681 rfl ?_
  refine ay_e_stk (pc := 682) (S' := [.int (i + 1), .ref am_scr, .ref 321]) fe_240_682 rfl ?_
  refine ay_e_scr (pc := 683) (v := v1) fe_240_683 q1 e1 ?_
  refine ay_e_call (pc := 684) (v := some (.int b)) fe_240_684 (ay_args [.ref 321, .int v1] [] rfl rfl (Nat.le_of_ble_eq_true rfl) (Nat.le_of_ble_eq_true rfl)) (ay_rcvV at_321 rfl) hm ?_
  refine ay_e_loc (pc := 687) (L' := [some (.ref am_scr), some (.ref 0), some (.ref 321), some (.ref 329), some (.int i), some (.int k), some (.int b), none, none]) fe_240_687 rfl ?_
  refine ay_e_loc (pc := 689) fe_240_689 rfl ?_
  refine ay_e_call (pc := 690) (v := some (.int (D2 321 7))) fe_240_690 (ay_args [.ref 321] [] rfl rfl (Nat.le_of_ble_eq_true rfl) (Nat.le_of_ble_eq_true rfl)) (ay_rcvV at_321 rfl) ay_m35 ?_
  refine ay_e_loc (pc := 693) fe_240_693 rfl ?_
  refine ay_e_pos (pc := 695) ht fe_240_695 rfl ?_
  refine ay_e_loc (pc := 700) fe_240_700 rfl ?_
  by_cases hk : k = 0
  · refine ay_e_neg (pc := 702) (P := ¬ k = 0) (fun h => h hk) fe_240_702 rfl ?_
    refine ay_e_loc (pc := 705) fe_240_705 rfl ?_
    refine ay_e_stk (pc := 706) (S' := [.int 0, .ref 329]) fe_240_706 rfl ?_
    refine ay_e_lal (pc := 707) fe_240_707 ?_
    refine ay_e_loc (pc := 708) fe_240_708 rfl ?_
    refine ay_e_stk (pc := 710) (S' := [.long b.toInt64, .long (D2 329 0).toInt64]) fe_240_710 rfl ?_
    refine ay_e_stk (pc := 711) (S' := [.int (lg_cmp ((D2 329 0).toInt64) b.toInt64)]) fe_240_711 rfl ?_
    refine ay_e_pos (pc := 712) (P := lg_cmp (D2 329 0).toInt64 b.toInt64 = 0) (by rw [hz hk]; exact ay_cmp0 _) fe_240_712 rfl ?_
    refine ay_e_br (pc := 717) (pc' := 1743) fe_240_717 rfl ?_
    refine ay_e_loc (pc := 1743) (L' := [some (.ref am_scr), some (.ref 0), some (.ref 321), some (.ref 329), some (.int (i + 4)), some (.int k), some (.int b), none, none]) fe_240_1743 rfl ?_
    refine ay_e_br (pc := 1746) (pc' := 23) fe_240_1746 rfl ?_
    exact ay_e_end fe_240_23 (by decide)
  · refine ay_e_pos (pc := 702) (P := ¬ k = 0) hk fe_240_702 rfl ?_
    refine ay_e_br (pc := 717) (pc' := 1743) fe_240_717 rfl ?_
    refine ay_e_loc (pc := 1743) (L' := [some (.ref am_scr), some (.ref 0), some (.ref 321), some (.ref 329), some (.int (i + 4)), some (.int k), some (.int b), none, none]) fe_240_1743 rfl ?_
    refine ay_e_br (pc := 1746) (pc' := 23) fe_240_1746 rfl ?_
    exact ay_e_end fe_240_23 (by decide)
set_option maxHeartbeats 2000000 in
theorem lw_11 {n : Nat} {xs : Nat → Int32} {i v0 k b : Int32} {D D1 D2 : am_DD} {c1 s1 : Nat} (q0 : ¬ (i < 0 ∨ n ≤ i.toNatClampNeg)) (e0 : xs i.toNatClampNeg = v0) (hc : v0 &&& 31 = 11) (hw : ay_mc 137 [.ref 0, .ref 329] D (some (.int k)) D1 c1 s1) (hm : ay_mo 138 [.ref 321] D1 (.inl (some (.int b))) D2) (ht : D2 321 7 = k) (hz : k = 0 → D2 329 0 = b) : ay_lw n xs i D D2 c1 s1 := by
  refine ⟨some (.int k), some (.int b), none, none, ?_⟩
  refine ay_e_loc (pc := 32) fe_240_32 rfl ?_
  refine ay_e_loc (pc := 33) fe_240_33 rfl ?_
  refine ay_e_scr (pc := 35) (v := v0) fe_240_35 q0 e0 ?_
  refine ay_e_stk (pc := 36) (S' := [.int 31, .int v0]) fe_240_36 rfl ?_
  refine ay_e_stk (pc := 38) (S' := [.int (v0 &&& 31)]) fe_240_38 rfl ?_
  refine ay_e_br (pc := 39) (pc' := 746) (S' := []) fe_240_39 (by rw [hc]; rfl) ?_
  refine ay_e_loc (pc := 746) fe_240_746 rfl ?_
  refine ay_e_loc (pc := 747) fe_240_747 rfl ?_
  refine ay_e_callC (pc := 748) (c := 0) (s := 0) fe_240_748 (ay_args [.ref 0, .ref 329] [] rfl rfl (Nat.le_of_ble_eq_true rfl) (Nat.le_of_ble_eq_true rfl)) rfl hw ?_
  refine ay_e_loc (pc := 751) (L' := [some (.ref am_scr), some (.ref 0), some (.ref 321), some (.ref 329), some (.int i), some (.int k), none, none, none]) fe_240_751 rfl ?_
  refine ay_e_loc (pc := 753) fe_240_753 rfl ?_
  refine ay_e_call (pc := 754) (v := some (.int b)) fe_240_754 (ay_args [.ref 321] [] rfl rfl (Nat.le_of_ble_eq_true rfl) (Nat.le_of_ble_eq_true rfl)) (ay_rcvV at_321 rfl) hm ?_
  refine ay_e_loc (pc := 757) (L' := [some (.ref am_scr), some (.ref 0), some (.ref 321), some (.ref 329), some (.int i), some (.int k), some (.int b), none, none]) fe_240_757 rfl ?_
  refine ay_e_loc (pc := 759) fe_240_759 rfl ?_
  refine ay_e_call (pc := 760) (v := some (.int (D2 321 7))) fe_240_760 (ay_args [.ref 321] [] rfl rfl (Nat.le_of_ble_eq_true rfl) (Nat.le_of_ble_eq_true rfl)) (ay_rcvV at_321 rfl) ay_m35 ?_
  refine ay_e_loc (pc := 763) fe_240_763 rfl ?_
  refine ay_e_pos (pc := 765) ht fe_240_765 rfl ?_
  refine ay_e_loc (pc := 770) fe_240_770 rfl ?_
  by_cases hk : k = 0
  · refine ay_e_neg (pc := 772) (P := ¬ k = 0) (fun h => h hk) fe_240_772 rfl ?_
    refine ay_e_loc (pc := 775) fe_240_775 rfl ?_
    refine ay_e_stk (pc := 776) (S' := [.int 0, .ref 329]) fe_240_776 rfl ?_
    refine ay_e_lal (pc := 777) fe_240_777 ?_
    refine ay_e_loc (pc := 778) fe_240_778 rfl ?_
    refine ay_e_stk (pc := 780) (S' := [.long b.toInt64, .long (D2 329 0).toInt64]) fe_240_780 rfl ?_
    refine ay_e_stk (pc := 781) (S' := [.int (lg_cmp ((D2 329 0).toInt64) b.toInt64)]) fe_240_781 rfl ?_
    refine ay_e_pos (pc := 782) (P := lg_cmp (D2 329 0).toInt64 b.toInt64 = 0) (by rw [hz hk]; exact ay_cmp0 _) fe_240_782 rfl ?_
    refine ay_e_br (pc := 787) (pc' := 1743) fe_240_787 rfl ?_
    refine ay_e_loc (pc := 1743) (L' := [some (.ref am_scr), some (.ref 0), some (.ref 321), some (.ref 329), some (.int (i + 4)), some (.int k), some (.int b), none, none]) fe_240_1743 rfl ?_
    refine ay_e_br (pc := 1746) (pc' := 23) fe_240_1746 rfl ?_
    exact ay_e_end fe_240_23 (by decide)
  · refine ay_e_pos (pc := 772) (P := ¬ k = 0) hk fe_240_772 rfl ?_
    refine ay_e_br (pc := 787) (pc' := 1743) fe_240_787 rfl ?_
    refine ay_e_loc (pc := 1743) (L' := [some (.ref am_scr), some (.ref 0), some (.ref 321), some (.ref 329), some (.int (i + 4)), some (.int k), some (.int b), none, none]) fe_240_1743 rfl ?_
    refine ay_e_br (pc := 1746) (pc' := 23) fe_240_1746 rfl ?_
    exact ay_e_end fe_240_23 (by decide)
set_option maxHeartbeats 2000000 in
theorem lw_12 {n : Nat} {xs : Nat → Int32} {i v0 k b : Int32} {D D1 D2 : am_DD} {c1 s1 : Nat} (q0 : ¬ (i < 0 ∨ n ≤ i.toNatClampNeg)) (e0 : xs i.toNatClampNeg = v0) (hc : v0 &&& 31 = 12) (hw : ay_mc 143 [.ref 0, .ref 329] D (some (.int k)) D1 c1 s1) (hm : ay_mo 144 [.ref 321] D1 (.inl (some (.int b))) D2) (ht : D2 321 7 = k) (hz : k = 0 → D2 329 0 = b) : ay_lw n xs i D D2 c1 s1 := by
  refine ⟨some (.int k), some (.int b), none, none, ?_⟩
  refine ay_e_loc (pc := 32) fe_240_32 rfl ?_
  refine ay_e_loc (pc := 33) fe_240_33 rfl ?_
  refine ay_e_scr (pc := 35) (v := v0) fe_240_35 q0 e0 ?_
  refine ay_e_stk (pc := 36) (S' := [.int 31, .int v0]) fe_240_36 rfl ?_
  refine ay_e_stk (pc := 38) (S' := [.int (v0 &&& 31)]) fe_240_38 rfl ?_
  refine ay_e_br (pc := 39) (pc' := 790) (S' := []) fe_240_39 (by rw [hc]; rfl) ?_
  refine ay_e_loc (pc := 790) fe_240_790 rfl ?_
  refine ay_e_loc (pc := 791) fe_240_791 rfl ?_
  refine ay_e_callC (pc := 792) (c := 0) (s := 0) fe_240_792 (ay_args [.ref 0, .ref 329] [] rfl rfl (Nat.le_of_ble_eq_true rfl) (Nat.le_of_ble_eq_true rfl)) rfl hw ?_
  refine ay_e_loc (pc := 795) (L' := [some (.ref am_scr), some (.ref 0), some (.ref 321), some (.ref 329), some (.int i), some (.int k), none, none, none]) fe_240_795 rfl ?_
  refine ay_e_loc (pc := 797) fe_240_797 rfl ?_
  refine ay_e_call (pc := 798) (v := some (.int b)) fe_240_798 (ay_args [.ref 321] [] rfl rfl (Nat.le_of_ble_eq_true rfl) (Nat.le_of_ble_eq_true rfl)) (ay_rcvV at_321 rfl) hm ?_
  refine ay_e_loc (pc := 801) (L' := [some (.ref am_scr), some (.ref 0), some (.ref 321), some (.ref 329), some (.int i), some (.int k), some (.int b), none, none]) fe_240_801 rfl ?_
  refine ay_e_loc (pc := 803) fe_240_803 rfl ?_
  refine ay_e_call (pc := 804) (v := some (.int (D2 321 7))) fe_240_804 (ay_args [.ref 321] [] rfl rfl (Nat.le_of_ble_eq_true rfl) (Nat.le_of_ble_eq_true rfl)) (ay_rcvV at_321 rfl) ay_m35 ?_
  refine ay_e_loc (pc := 807) fe_240_807 rfl ?_
  refine ay_e_pos (pc := 809) ht fe_240_809 rfl ?_
  refine ay_e_loc (pc := 814) fe_240_814 rfl ?_
  by_cases hk : k = 0
  · refine ay_e_neg (pc := 816) (P := ¬ k = 0) (fun h => h hk) fe_240_816 rfl ?_
    refine ay_e_loc (pc := 819) fe_240_819 rfl ?_
    refine ay_e_stk (pc := 820) (S' := [.int 0, .ref 329]) fe_240_820 rfl ?_
    refine ay_e_lal (pc := 821) fe_240_821 ?_
    refine ay_e_loc (pc := 822) fe_240_822 rfl ?_
    refine ay_e_stk (pc := 824) (S' := [.long b.toInt64, .long (D2 329 0).toInt64]) fe_240_824 rfl ?_
    refine ay_e_stk (pc := 825) (S' := [.int (lg_cmp ((D2 329 0).toInt64) b.toInt64)]) fe_240_825 rfl ?_
    refine ay_e_pos (pc := 826) (P := lg_cmp (D2 329 0).toInt64 b.toInt64 = 0) (by rw [hz hk]; exact ay_cmp0 _) fe_240_826 rfl ?_
    refine ay_e_br (pc := 831) (pc' := 1743) fe_240_831 rfl ?_
    refine ay_e_loc (pc := 1743) (L' := [some (.ref am_scr), some (.ref 0), some (.ref 321), some (.ref 329), some (.int (i + 4)), some (.int k), some (.int b), none, none]) fe_240_1743 rfl ?_
    refine ay_e_br (pc := 1746) (pc' := 23) fe_240_1746 rfl ?_
    exact ay_e_end fe_240_23 (by decide)
  · refine ay_e_pos (pc := 816) (P := ¬ k = 0) hk fe_240_816 rfl ?_
    refine ay_e_br (pc := 831) (pc' := 1743) fe_240_831 rfl ?_
    refine ay_e_loc (pc := 1743) (L' := [some (.ref am_scr), some (.ref 0), some (.ref 321), some (.ref 329), some (.int (i + 4)), some (.int k), some (.int b), none, none]) fe_240_1743 rfl ?_
    refine ay_e_br (pc := 1746) (pc' := 23) fe_240_1746 rfl ?_
    exact ay_e_end fe_240_23 (by decide)
set_option maxHeartbeats 2000000 in
theorem lw_13 {n : Nat} {xs : Nat → Int32} {i v0 v1 k b : Int32} {D D1 D2 : am_DD} {c1 s1 : Nat} (q0 : ¬ (i < 0 ∨ n ≤ i.toNatClampNeg)) (e0 : xs i.toNatClampNeg = v0) (q1 : ¬ ((i + 1) < 0 ∨ n ≤ (i + 1).toNatClampNeg)) (e1 : xs (i + 1).toNatClampNeg = v1) (hc : v0 &&& 31 = 13) (hw : ay_mc 147 [.ref 0, .int v1, .ref 329] D (some (.int k)) D1 c1 s1) (hm : ay_mo 149 [.ref 321, .int v1] D1 (.inl (some (.int b))) D2) (ht : D2 321 7 = k) (hz : k = 0 → D2 329 0 = b) : ay_lw n xs i D D2 c1 s1 := by
  refine ⟨some (.int k), some (.int b), none, none, ?_⟩
  refine ay_e_loc (pc := 32) fe_240_32 rfl ?_
  refine ay_e_loc (pc := 33) fe_240_33 rfl ?_
  refine ay_e_scr (pc := 35) (v := v0) fe_240_35 q0 e0 ?_
  refine ay_e_stk (pc := 36) (S' := [.int 31, .int v0]) fe_240_36 rfl ?_
  refine ay_e_stk (pc := 38) (S' := [.int (v0 &&& 31)]) fe_240_38 rfl ?_
  refine ay_e_br (pc := 39) (pc' := 834) (S' := []) fe_240_39 (by rw [hc]; rfl) ?_
  refine ay_e_loc (pc := 834) fe_240_834 rfl ?_
  refine ay_e_loc (pc := 835) fe_240_835 rfl ?_
  refine ay_e_loc (pc := 836) fe_240_836 rfl ?_
  refine ay_e_stk (pc := 838) (S' := [.int 1, .int i, .ref am_scr, .ref 0]) fe_240_838 rfl ?_
  refine ay_e_stk (pc := 839) (S' := [.int (i + 1), .ref am_scr, .ref 0]) fe_240_839 rfl ?_
  refine ay_e_scr (pc := 840) (v := v1) fe_240_840 q1 e1 ?_
  refine ay_e_loc (pc := 841) fe_240_841 rfl ?_
  refine ay_e_callC (pc := 842) (c := 0) (s := 0) fe_240_842 (ay_args [.ref 0, .int v1, .ref 329] [] rfl rfl (Nat.le_of_ble_eq_true rfl) (Nat.le_of_ble_eq_true rfl)) rfl hw ?_
  refine ay_e_loc (pc := 845) (L' := [some (.ref am_scr), some (.ref 0), some (.ref 321), some (.ref 329), some (.int i), some (.int k), none, none, none]) fe_240_845 rfl ?_
  refine ay_e_loc (pc := 847) fe_240_847 rfl ?_
  refine ay_e_loc (pc := 848) fe_240_848 rfl ?_
  refine ay_e_loc (pc := 849) fe_240_849 rfl ?_
  refine ay_e_stk (pc := 851) (S' := [.int 1, .int i, .ref am_scr, .ref 321]) fe_240_851 rfl ?_
  refine ay_e_stk (pc := 852) (S' := [.int (i + 1), .ref am_scr, .ref 321]) fe_240_852 rfl ?_
  refine ay_e_scr (pc := 853) (v := v1) fe_240_853 q1 e1 ?_
  refine ay_e_call (pc := 854) (v := some (.int b)) fe_240_854 (ay_args [.ref 321, .int v1] [] rfl rfl (Nat.le_of_ble_eq_true rfl) (Nat.le_of_ble_eq_true rfl)) (ay_rcvV at_321 rfl) hm ?_
  refine ay_e_loc (pc := 857) (L' := [some (.ref am_scr), some (.ref 0), some (.ref 321), some (.ref 329), some (.int i), some (.int k), some (.int b), none, none]) fe_240_857 rfl ?_
  refine ay_e_loc (pc := 859) fe_240_859 rfl ?_
  refine ay_e_call (pc := 860) (v := some (.int (D2 321 7))) fe_240_860 (ay_args [.ref 321] [] rfl rfl (Nat.le_of_ble_eq_true rfl) (Nat.le_of_ble_eq_true rfl)) (ay_rcvV at_321 rfl) ay_m35 ?_
  refine ay_e_loc (pc := 863) fe_240_863 rfl ?_
  refine ay_e_pos (pc := 865) ht fe_240_865 rfl ?_
  refine ay_e_loc (pc := 870) fe_240_870 rfl ?_
  by_cases hk : k = 0
  · refine ay_e_neg (pc := 872) (P := ¬ k = 0) (fun h => h hk) fe_240_872 rfl ?_
    refine ay_e_loc (pc := 875) fe_240_875 rfl ?_
    refine ay_e_stk (pc := 876) (S' := [.int 0, .ref 329]) fe_240_876 rfl ?_
    refine ay_e_lal (pc := 877) fe_240_877 ?_
    refine ay_e_loc (pc := 878) fe_240_878 rfl ?_
    refine ay_e_stk (pc := 880) (S' := [.long b.toInt64, .long (D2 329 0).toInt64]) fe_240_880 rfl ?_
    refine ay_e_stk (pc := 881) (S' := [.int (lg_cmp ((D2 329 0).toInt64) b.toInt64)]) fe_240_881 rfl ?_
    refine ay_e_pos (pc := 882) (P := lg_cmp (D2 329 0).toInt64 b.toInt64 = 0) (by rw [hz hk]; exact ay_cmp0 _) fe_240_882 rfl ?_
    refine ay_e_br (pc := 887) (pc' := 1743) fe_240_887 rfl ?_
    refine ay_e_loc (pc := 1743) (L' := [some (.ref am_scr), some (.ref 0), some (.ref 321), some (.ref 329), some (.int (i + 4)), some (.int k), some (.int b), none, none]) fe_240_1743 rfl ?_
    refine ay_e_br (pc := 1746) (pc' := 23) fe_240_1746 rfl ?_
    exact ay_e_end fe_240_23 (by decide)
  · refine ay_e_pos (pc := 872) (P := ¬ k = 0) hk fe_240_872 rfl ?_
    refine ay_e_br (pc := 887) (pc' := 1743) fe_240_887 rfl ?_
    refine ay_e_loc (pc := 1743) (L' := [some (.ref am_scr), some (.ref 0), some (.ref 321), some (.ref 329), some (.int (i + 4)), some (.int k), some (.int b), none, none]) fe_240_1743 rfl ?_
    refine ay_e_br (pc := 1746) (pc' := 23) fe_240_1746 rfl ?_
    exact ay_e_end fe_240_23 (by decide)
set_option maxHeartbeats 2000000 in
theorem lw_14 {n : Nat} {xs : Nat → Int32} {i v0 v1 k b : Int32} {D D1 D2 : am_DD} {c1 s1 : Nat} (q0 : ¬ (i < 0 ∨ n ≤ i.toNatClampNeg)) (e0 : xs i.toNatClampNeg = v0) (q1 : ¬ ((i + 1) < 0 ∨ n ≤ (i + 1).toNatClampNeg)) (e1 : xs (i + 1).toNatClampNeg = v1) (hc : v0 &&& 31 = 14) (hw : ay_mc 152 [.ref 0, .int v1, .ref 329] D (some (.int k)) D1 c1 s1) (hm : ay_mo 153 [.ref 321, .int v1] D1 (.inl (some (.int b))) D2) (ht : D2 321 7 = k) (hz : k = 0 → D2 329 0 = b) : ay_lw n xs i D D2 c1 s1 := by
  refine ⟨some (.int k), some (.int b), none, none, ?_⟩
  refine ay_e_loc (pc := 32) fe_240_32 rfl ?_
  refine ay_e_loc (pc := 33) fe_240_33 rfl ?_
  refine ay_e_scr (pc := 35) (v := v0) fe_240_35 q0 e0 ?_
  refine ay_e_stk (pc := 36) (S' := [.int 31, .int v0]) fe_240_36 rfl ?_
  refine ay_e_stk (pc := 38) (S' := [.int (v0 &&& 31)]) fe_240_38 rfl ?_
  refine ay_e_br (pc := 39) (pc' := 890) (S' := []) fe_240_39 (by rw [hc]; rfl) ?_
  refine ay_e_loc (pc := 890) fe_240_890 rfl ?_
  refine ay_e_loc (pc := 891) fe_240_891 rfl ?_
  refine ay_e_loc (pc := 892) fe_240_892 rfl ?_
  refine ay_e_stk (pc := 894) (S' := [.int 1, .int i, .ref am_scr, .ref 0]) fe_240_894 rfl ?_
  refine ay_e_stk (pc := 895) (S' := [.int (i + 1), .ref am_scr, .ref 0]) fe_240_895 rfl ?_
  refine ay_e_scr (pc := 896) (v := v1) fe_240_896 q1 e1 ?_
  refine ay_e_loc (pc := 897) fe_240_897 rfl ?_
  refine ay_e_callC (pc := 898) (c := 0) (s := 0) fe_240_898 (ay_args [.ref 0, .int v1, .ref 329] [] rfl rfl (Nat.le_of_ble_eq_true rfl) (Nat.le_of_ble_eq_true rfl)) rfl hw ?_
  refine ay_e_loc (pc := 901) (L' := [some (.ref am_scr), some (.ref 0), some (.ref 321), some (.ref 329), some (.int i), some (.int k), none, none, none]) fe_240_901 rfl ?_
  refine ay_e_loc (pc := 903) fe_240_903 rfl ?_
  refine ay_e_loc (pc := 904) fe_240_904 rfl ?_
  refine ay_e_loc (pc := 905) fe_240_905 rfl ?_
  refine ay_e_stk (pc := 907) (S' := [.int 1, .int i, .ref am_scr, .ref 321]) fe_240_907 rfl ?_
  refine ay_e_stk (pc := 908) (S' := [.int (i + 1), .ref am_scr, .ref 321]) fe_240_908 rfl ?_
  refine ay_e_scr (pc := 909) (v := v1) fe_240_909 q1 e1 ?_
  refine ay_e_call (pc := 910) (v := some (.int b)) fe_240_910 (ay_args [.ref 321, .int v1] [] rfl rfl (Nat.le_of_ble_eq_true rfl) (Nat.le_of_ble_eq_true rfl)) (ay_rcvV at_321 rfl) hm ?_
  refine ay_e_loc (pc := 913) (L' := [some (.ref am_scr), some (.ref 0), some (.ref 321), some (.ref 329), some (.int i), some (.int k), some (.int b), none, none]) fe_240_913 rfl ?_
  refine ay_e_loc (pc := 915) fe_240_915 rfl ?_
  refine ay_e_call (pc := 916) (v := some (.int (D2 321 7))) fe_240_916 (ay_args [.ref 321] [] rfl rfl (Nat.le_of_ble_eq_true rfl) (Nat.le_of_ble_eq_true rfl)) (ay_rcvV at_321 rfl) ay_m35 ?_
  refine ay_e_loc (pc := 919) fe_240_919 rfl ?_
  refine ay_e_pos (pc := 921) ht fe_240_921 rfl ?_
  refine ay_e_loc (pc := 926) fe_240_926 rfl ?_
  by_cases hk : k = 0
  · refine ay_e_neg (pc := 928) (P := ¬ k = 0) (fun h => h hk) fe_240_928 rfl ?_
    refine ay_e_loc (pc := 931) fe_240_931 rfl ?_
    refine ay_e_stk (pc := 932) (S' := [.int 0, .ref 329]) fe_240_932 rfl ?_
    refine ay_e_lal (pc := 933) fe_240_933 ?_
    refine ay_e_loc (pc := 934) fe_240_934 rfl ?_
    refine ay_e_stk (pc := 936) (S' := [.long b.toInt64, .long (D2 329 0).toInt64]) fe_240_936 rfl ?_
    refine ay_e_stk (pc := 937) (S' := [.int (lg_cmp ((D2 329 0).toInt64) b.toInt64)]) fe_240_937 rfl ?_
    refine ay_e_pos (pc := 938) (P := lg_cmp (D2 329 0).toInt64 b.toInt64 = 0) (by rw [hz hk]; exact ay_cmp0 _) fe_240_938 rfl ?_
    refine ay_e_br (pc := 943) (pc' := 1743) fe_240_943 rfl ?_
    refine ay_e_loc (pc := 1743) (L' := [some (.ref am_scr), some (.ref 0), some (.ref 321), some (.ref 329), some (.int (i + 4)), some (.int k), some (.int b), none, none]) fe_240_1743 rfl ?_
    refine ay_e_br (pc := 1746) (pc' := 23) fe_240_1746 rfl ?_
    exact ay_e_end fe_240_23 (by decide)
  · refine ay_e_pos (pc := 928) (P := ¬ k = 0) hk fe_240_928 rfl ?_
    refine ay_e_br (pc := 943) (pc' := 1743) fe_240_943 rfl ?_
    refine ay_e_loc (pc := 1743) (L' := [some (.ref am_scr), some (.ref 0), some (.ref 321), some (.ref 329), some (.int (i + 4)), some (.int k), some (.int b), none, none]) fe_240_1743 rfl ?_
    refine ay_e_br (pc := 1746) (pc' := 23) fe_240_1746 rfl ?_
    exact ay_e_end fe_240_23 (by decide)
set_option maxHeartbeats 2000000 in
theorem lw_15 {n : Nat} {xs : Nat → Int32} {i v0 v1 v2 k b : Int32} {D D1 D2 : am_DD} {c1 s1 : Nat} (q0 : ¬ (i < 0 ∨ n ≤ i.toNatClampNeg)) (e0 : xs i.toNatClampNeg = v0) (q1 : ¬ ((i + 1) < 0 ∨ n ≤ (i + 1).toNatClampNeg)) (e1 : xs (i + 1).toNatClampNeg = v1) (q2 : ¬ ((i + 2) < 0 ∨ n ≤ (i + 2).toNatClampNeg)) (e2 : xs (i + 2).toNatClampNeg = v2) (hc : v0 &&& 31 = 15) (hw : ay_mc 157 [.ref 0, .int v1, .int v2, .ref 329] D (some (.int k)) D1 c1 s1) (hm : ay_mo 160 [.ref 321, .int v1, .int v2] D1 (.inl (some (.int b))) D2) (ht : D2 321 7 = k) (hz : k = 0 → D2 329 0 = b) : ay_lw n xs i D D2 c1 s1 := by
  refine ⟨some (.int k), some (.int b), none, none, ?_⟩
  refine ay_e_loc (pc := 32) fe_240_32 rfl ?_
  refine ay_e_loc (pc := 33) fe_240_33 rfl ?_
  refine ay_e_scr (pc := 35) (v := v0) fe_240_35 q0 e0 ?_
  refine ay_e_stk (pc := 36) (S' := [.int 31, .int v0]) fe_240_36 rfl ?_
  refine ay_e_stk (pc := 38) (S' := [.int (v0 &&& 31)]) fe_240_38 rfl ?_
  refine ay_e_br (pc := 39) (pc' := 946) (S' := []) fe_240_39 (by rw [hc]; rfl) ?_
  refine ay_e_loc (pc := 946) fe_240_946 rfl ?_
  refine ay_e_loc (pc := 947) fe_240_947 rfl ?_
  refine ay_e_loc (pc := 948) fe_240_948 rfl ?_
  refine ay_e_stk (pc := 950) (S' := [.int 1, .int i, .ref am_scr, .ref 0]) fe_240_950 rfl ?_
  refine ay_e_stk (pc := 951) (S' := [.int (i + 1), .ref am_scr, .ref 0]) fe_240_951 rfl ?_
  refine ay_e_scr (pc := 952) (v := v1) fe_240_952 q1 e1 ?_
  refine ay_e_loc (pc := 953) fe_240_953 rfl ?_
  refine ay_e_loc (pc := 954) fe_240_954 rfl ?_
  refine ay_e_stk (pc := 956) (S' := [.int 2, .int i, .ref am_scr, .int v1, .ref 0]) fe_240_956 rfl ?_
  refine ay_e_stk (pc := 957) (S' := [.int (i + 2), .ref am_scr, .int v1, .ref 0]) fe_240_957 rfl ?_
  refine ay_e_scr (pc := 958) (v := v2) fe_240_958 q2 e2 ?_
  refine ay_e_loc (pc := 959) fe_240_959 rfl ?_
  refine ay_e_callC (pc := 960) (c := 0) (s := 0) fe_240_960 (ay_args [.ref 0, .int v1, .int v2, .ref 329] [] rfl rfl (Nat.le_of_ble_eq_true rfl) (Nat.le_of_ble_eq_true rfl)) rfl hw ?_
  refine ay_e_loc (pc := 963) (L' := [some (.ref am_scr), some (.ref 0), some (.ref 321), some (.ref 329), some (.int i), some (.int k), none, none, none]) fe_240_963 rfl ?_
  refine ay_e_loc (pc := 965) fe_240_965 rfl ?_
  refine ay_e_loc (pc := 966) fe_240_966 rfl ?_
  refine ay_e_loc (pc := 967) fe_240_967 rfl ?_
  refine ay_e_stk (pc := 969) (S' := [.int 1, .int i, .ref am_scr, .ref 321]) fe_240_969 rfl ?_
  refine ay_e_stk (pc := 970) (S' := [.int (i + 1), .ref am_scr, .ref 321]) fe_240_970 rfl ?_
  refine ay_e_scr (pc := 971) (v := v1) fe_240_971 q1 e1 ?_
  refine ay_e_loc (pc := 972) fe_240_972 rfl ?_
  refine ay_e_loc (pc := 973) fe_240_973 rfl ?_
  refine ay_e_stk (pc := 975) (S' := [.int 2, .int i, .ref am_scr, .int v1, .ref 321]) fe_240_975 rfl ?_
  refine ay_e_stk (pc := 976) (S' := [.int (i + 2), .ref am_scr, .int v1, .ref 321]) fe_240_976 rfl ?_
  refine ay_e_scr (pc := 977) (v := v2) fe_240_977 q2 e2 ?_
  refine ay_e_call (pc := 978) (v := some (.int b)) fe_240_978 (ay_args [.ref 321, .int v1, .int v2] [] rfl rfl (Nat.le_of_ble_eq_true rfl) (Nat.le_of_ble_eq_true rfl)) (ay_rcvV at_321 rfl) hm ?_
  refine ay_e_loc (pc := 981) (L' := [some (.ref am_scr), some (.ref 0), some (.ref 321), some (.ref 329), some (.int i), some (.int k), some (.int b), none, none]) fe_240_981 rfl ?_
  refine ay_e_loc (pc := 983) fe_240_983 rfl ?_
  refine ay_e_call (pc := 984) (v := some (.int (D2 321 7))) fe_240_984 (ay_args [.ref 321] [] rfl rfl (Nat.le_of_ble_eq_true rfl) (Nat.le_of_ble_eq_true rfl)) (ay_rcvV at_321 rfl) ay_m35 ?_
  refine ay_e_loc (pc := 987) fe_240_987 rfl ?_
  refine ay_e_pos (pc := 989) ht fe_240_989 rfl ?_
  refine ay_e_loc (pc := 994) fe_240_994 rfl ?_
  by_cases hk : k = 0
  · refine ay_e_neg (pc := 996) (P := ¬ k = 0) (fun h => h hk) fe_240_996 rfl ?_
    refine ay_e_loc (pc := 999) fe_240_999 rfl ?_
    refine ay_e_stk (pc := 1000) (S' := [.int 0, .ref 329]) fe_240_1000 rfl ?_
    refine ay_e_lal (pc := 1001) fe_240_1001 ?_
    refine ay_e_loc (pc := 1002) fe_240_1002 rfl ?_
    refine ay_e_stk (pc := 1004) (S' := [.long b.toInt64, .long (D2 329 0).toInt64]) fe_240_1004 rfl ?_
    refine ay_e_stk (pc := 1005) (S' := [.int (lg_cmp ((D2 329 0).toInt64) b.toInt64)]) fe_240_1005 rfl ?_
    refine ay_e_pos (pc := 1006) (P := lg_cmp (D2 329 0).toInt64 b.toInt64 = 0) (by rw [hz hk]; exact ay_cmp0 _) fe_240_1006 rfl ?_
    refine ay_e_br (pc := 1011) (pc' := 1743) fe_240_1011 rfl ?_
    refine ay_e_loc (pc := 1743) (L' := [some (.ref am_scr), some (.ref 0), some (.ref 321), some (.ref 329), some (.int (i + 4)), some (.int k), some (.int b), none, none]) fe_240_1743 rfl ?_
    refine ay_e_br (pc := 1746) (pc' := 23) fe_240_1746 rfl ?_
    exact ay_e_end fe_240_23 (by decide)
  · refine ay_e_pos (pc := 996) (P := ¬ k = 0) hk fe_240_996 rfl ?_
    refine ay_e_br (pc := 1011) (pc' := 1743) fe_240_1011 rfl ?_
    refine ay_e_loc (pc := 1743) (L' := [some (.ref am_scr), some (.ref 0), some (.ref 321), some (.ref 329), some (.int (i + 4)), some (.int k), some (.int b), none, none]) fe_240_1743 rfl ?_
    refine ay_e_br (pc := 1746) (pc' := 23) fe_240_1746 rfl ?_
    exact ay_e_end fe_240_23 (by decide)
set_option maxHeartbeats 2000000 in
theorem lw_16 {n : Nat} {xs : Nat → Int32} {i v0 v1 v2 k b : Int32} {D D1 D2 : am_DD} {c1 s1 : Nat} (q0 : ¬ (i < 0 ∨ n ≤ i.toNatClampNeg)) (e0 : xs i.toNatClampNeg = v0) (q1 : ¬ ((i + 1) < 0 ∨ n ≤ (i + 1).toNatClampNeg)) (e1 : xs (i + 1).toNatClampNeg = v1) (q2 : ¬ ((i + 2) < 0 ∨ n ≤ (i + 2).toNatClampNeg)) (e2 : xs (i + 2).toNatClampNeg = v2) (hc : v0 &&& 31 = 16) (hw : ay_mc 164 [.ref 0, .int v1, .int v2, .ref 329] D (some (.int k)) D1 c1 s1) (hm : ay_mo 166 [.ref 321, .int v1, .int v2] D1 (.inl (some (.int b))) D2) (ht : D2 321 7 = k) (hz : k = 0 → D2 329 0 = b) : ay_lw n xs i D D2 c1 s1 := by
  refine ⟨some (.int k), some (.int b), none, none, ?_⟩
  refine ay_e_loc (pc := 32) fe_240_32 rfl ?_
  refine ay_e_loc (pc := 33) fe_240_33 rfl ?_
  refine ay_e_scr (pc := 35) (v := v0) fe_240_35 q0 e0 ?_
  refine ay_e_stk (pc := 36) (S' := [.int 31, .int v0]) fe_240_36 rfl ?_
  refine ay_e_stk (pc := 38) (S' := [.int (v0 &&& 31)]) fe_240_38 rfl ?_
  refine ay_e_br (pc := 39) (pc' := 1014) (S' := []) fe_240_39 (by rw [hc]; rfl) ?_
  refine ay_e_loc (pc := 1014) fe_240_1014 rfl ?_
  refine ay_e_loc (pc := 1015) fe_240_1015 rfl ?_
  refine ay_e_loc (pc := 1016) fe_240_1016 rfl ?_
  refine ay_e_stk (pc := 1018) (S' := [.int 1, .int i, .ref am_scr, .ref 0]) fe_240_1018 rfl ?_
  refine ay_e_stk (pc := 1019) (S' := [.int (i + 1), .ref am_scr, .ref 0]) fe_240_1019 rfl ?_
  refine ay_e_scr (pc := 1020) (v := v1) fe_240_1020 q1 e1 ?_
  refine ay_e_loc (pc := 1021) fe_240_1021 rfl ?_
  refine ay_e_loc (pc := 1022) fe_240_1022 rfl ?_
  refine ay_e_stk (pc := 1024) (S' := [.int 2, .int i, .ref am_scr, .int v1, .ref 0]) fe_240_1024 rfl ?_
  refine ay_e_stk (pc := 1025) (S' := [.int (i + 2), .ref am_scr, .int v1, .ref 0]) fe_240_1025 rfl ?_
  refine ay_e_scr (pc := 1026) (v := v2) fe_240_1026 q2 e2 ?_
  refine ay_e_loc (pc := 1027) fe_240_1027 rfl ?_
  refine ay_e_callC (pc := 1028) (c := 0) (s := 0) fe_240_1028 (ay_args [.ref 0, .int v1, .int v2, .ref 329] [] rfl rfl (Nat.le_of_ble_eq_true rfl) (Nat.le_of_ble_eq_true rfl)) rfl hw ?_
  refine ay_e_loc (pc := 1031) (L' := [some (.ref am_scr), some (.ref 0), some (.ref 321), some (.ref 329), some (.int i), some (.int k), none, none, none]) fe_240_1031 rfl ?_
  refine ay_e_loc (pc := 1033) fe_240_1033 rfl ?_
  refine ay_e_loc (pc := 1034) fe_240_1034 rfl ?_
  refine ay_e_loc (pc := 1035) fe_240_1035 rfl ?_
  refine ay_e_stk (pc := 1037) (S' := [.int 1, .int i, .ref am_scr, .ref 321]) fe_240_1037 rfl ?_
  refine ay_e_stk (pc := 1038) (S' := [.int (i + 1), .ref am_scr, .ref 321]) fe_240_1038 rfl ?_
  refine ay_e_scr (pc := 1039) (v := v1) fe_240_1039 q1 e1 ?_
  refine ay_e_loc (pc := 1040) fe_240_1040 rfl ?_
  refine ay_e_loc (pc := 1041) fe_240_1041 rfl ?_
  refine ay_e_stk (pc := 1043) (S' := [.int 2, .int i, .ref am_scr, .int v1, .ref 321]) fe_240_1043 rfl ?_
  refine ay_e_stk (pc := 1044) (S' := [.int (i + 2), .ref am_scr, .int v1, .ref 321]) fe_240_1044 rfl ?_
  refine ay_e_scr (pc := 1045) (v := v2) fe_240_1045 q2 e2 ?_
  refine ay_e_call (pc := 1046) (v := some (.int b)) fe_240_1046 (ay_args [.ref 321, .int v1, .int v2] [] rfl rfl (Nat.le_of_ble_eq_true rfl) (Nat.le_of_ble_eq_true rfl)) (ay_rcvV at_321 rfl) hm ?_
  refine ay_e_loc (pc := 1049) (L' := [some (.ref am_scr), some (.ref 0), some (.ref 321), some (.ref 329), some (.int i), some (.int k), some (.int b), none, none]) fe_240_1049 rfl ?_
  refine ay_e_loc (pc := 1051) fe_240_1051 rfl ?_
  refine ay_e_call (pc := 1052) (v := some (.int (D2 321 7))) fe_240_1052 (ay_args [.ref 321] [] rfl rfl (Nat.le_of_ble_eq_true rfl) (Nat.le_of_ble_eq_true rfl)) (ay_rcvV at_321 rfl) ay_m35 ?_
  refine ay_e_loc (pc := 1055) fe_240_1055 rfl ?_
  refine ay_e_pos (pc := 1057) ht fe_240_1057 rfl ?_
  refine ay_e_loc (pc := 1062) fe_240_1062 rfl ?_
  by_cases hk : k = 0
  · refine ay_e_neg (pc := 1064) (P := ¬ k = 0) (fun h => h hk) fe_240_1064 rfl ?_
    refine ay_e_loc (pc := 1067) fe_240_1067 rfl ?_
    refine ay_e_stk (pc := 1068) (S' := [.int 0, .ref 329]) fe_240_1068 rfl ?_
    refine ay_e_lal (pc := 1069) fe_240_1069 ?_
    refine ay_e_loc (pc := 1070) fe_240_1070 rfl ?_
    refine ay_e_stk (pc := 1072) (S' := [.long b.toInt64, .long (D2 329 0).toInt64]) fe_240_1072 rfl ?_
    refine ay_e_stk (pc := 1073) (S' := [.int (lg_cmp ((D2 329 0).toInt64) b.toInt64)]) fe_240_1073 rfl ?_
    refine ay_e_pos (pc := 1074) (P := lg_cmp (D2 329 0).toInt64 b.toInt64 = 0) (by rw [hz hk]; exact ay_cmp0 _) fe_240_1074 rfl ?_
    refine ay_e_br (pc := 1079) (pc' := 1743) fe_240_1079 rfl ?_
    refine ay_e_loc (pc := 1743) (L' := [some (.ref am_scr), some (.ref 0), some (.ref 321), some (.ref 329), some (.int (i + 4)), some (.int k), some (.int b), none, none]) fe_240_1743 rfl ?_
    refine ay_e_br (pc := 1746) (pc' := 23) fe_240_1746 rfl ?_
    exact ay_e_end fe_240_23 (by decide)
  · refine ay_e_pos (pc := 1064) (P := ¬ k = 0) hk fe_240_1064 rfl ?_
    refine ay_e_br (pc := 1079) (pc' := 1743) fe_240_1079 rfl ?_
    refine ay_e_loc (pc := 1743) (L' := [some (.ref am_scr), some (.ref 0), some (.ref 321), some (.ref 329), some (.int (i + 4)), some (.int k), some (.int b), none, none]) fe_240_1743 rfl ?_
    refine ay_e_br (pc := 1746) (pc' := 23) fe_240_1746 rfl ?_
    exact ay_e_end fe_240_23 (by decide)
set_option maxHeartbeats 2000000 in
theorem lw_17 {n : Nat} {xs : Nat → Int32} {i v0 v1 v2 k b : Int32} {D D1 D2 : am_DD} {c1 s1 : Nat} (q0 : ¬ (i < 0 ∨ n ≤ i.toNatClampNeg)) (e0 : xs i.toNatClampNeg = v0) (q1 : ¬ ((i + 1) < 0 ∨ n ≤ (i + 1).toNatClampNeg)) (e1 : xs (i + 1).toNatClampNeg = v1) (q2 : ¬ ((i + 2) < 0 ∨ n ≤ (i + 2).toNatClampNeg)) (e2 : xs (i + 2).toNatClampNeg = v2) (hc : v0 &&& 31 = 17) (hw : ay_mc 169 [.ref 0, .int v1, .int v2, .ref 329] D (some (.int k)) D1 c1 s1) (hm : ay_mo 171 [.ref 321, .int v1, .int v2] D1 (.inl (some (.int b))) D2) (ht : D2 321 7 = k) (hz : k = 0 → D2 329 0 = b) : ay_lw n xs i D D2 c1 s1 := by
  refine ⟨some (.int k), some (.int b), none, none, ?_⟩
  refine ay_e_loc (pc := 32) fe_240_32 rfl ?_
  refine ay_e_loc (pc := 33) fe_240_33 rfl ?_
  refine ay_e_scr (pc := 35) (v := v0) fe_240_35 q0 e0 ?_
  refine ay_e_stk (pc := 36) (S' := [.int 31, .int v0]) fe_240_36 rfl ?_
  refine ay_e_stk (pc := 38) (S' := [.int (v0 &&& 31)]) fe_240_38 rfl ?_
  refine ay_e_br (pc := 39) (pc' := 1082) (S' := []) fe_240_39 (by rw [hc]; rfl) ?_
  refine ay_e_loc (pc := 1082) fe_240_1082 rfl ?_
  refine ay_e_loc (pc := 1083) fe_240_1083 rfl ?_
  refine ay_e_loc (pc := 1084) fe_240_1084 rfl ?_
  refine ay_e_stk (pc := 1086) (S' := [.int 1, .int i, .ref am_scr, .ref 0]) fe_240_1086 rfl ?_
  refine ay_e_stk (pc := 1087) (S' := [.int (i + 1), .ref am_scr, .ref 0]) fe_240_1087 rfl ?_
  refine ay_e_scr (pc := 1088) (v := v1) fe_240_1088 q1 e1 ?_
  refine ay_e_loc (pc := 1089) fe_240_1089 rfl ?_
  refine ay_e_loc (pc := 1090) fe_240_1090 rfl ?_
  refine ay_e_stk (pc := 1092) (S' := [.int 2, .int i, .ref am_scr, .int v1, .ref 0]) fe_240_1092 rfl ?_
  refine ay_e_stk (pc := 1093) (S' := [.int (i + 2), .ref am_scr, .int v1, .ref 0]) fe_240_1093 rfl ?_
  refine ay_e_scr (pc := 1094) (v := v2) fe_240_1094 q2 e2 ?_
  refine ay_e_loc (pc := 1095) fe_240_1095 rfl ?_
  refine ay_e_callC (pc := 1096) (c := 0) (s := 0) fe_240_1096 (ay_args [.ref 0, .int v1, .int v2, .ref 329] [] rfl rfl (Nat.le_of_ble_eq_true rfl) (Nat.le_of_ble_eq_true rfl)) rfl hw ?_
  refine ay_e_loc (pc := 1099) (L' := [some (.ref am_scr), some (.ref 0), some (.ref 321), some (.ref 329), some (.int i), some (.int k), none, none, none]) fe_240_1099 rfl ?_
  refine ay_e_loc (pc := 1101) fe_240_1101 rfl ?_
  refine ay_e_loc (pc := 1102) fe_240_1102 rfl ?_
  refine ay_e_loc (pc := 1103) fe_240_1103 rfl ?_
  refine ay_e_stk (pc := 1105) (S' := [.int 1, .int i, .ref am_scr, .ref 321]) fe_240_1105 rfl ?_
  refine ay_e_stk (pc := 1106) (S' := [.int (i + 1), .ref am_scr, .ref 321]) fe_240_1106 rfl ?_
  refine ay_e_scr (pc := 1107) (v := v1) fe_240_1107 q1 e1 ?_
  refine ay_e_loc (pc := 1108) fe_240_1108 rfl ?_
  refine ay_e_loc (pc := 1109) fe_240_1109 rfl ?_
  refine ay_e_stk (pc := 1111) (S' := [.int 2, .int i, .ref am_scr, .int v1, .ref 321]) fe_240_1111 rfl ?_
  refine ay_e_stk (pc := 1112) (S' := [.int (i + 2), .ref am_scr, .int v1, .ref 321]) fe_240_1112 rfl ?_
  refine ay_e_scr (pc := 1113) (v := v2) fe_240_1113 q2 e2 ?_
  refine ay_e_call (pc := 1114) (v := some (.int b)) fe_240_1114 (ay_args [.ref 321, .int v1, .int v2] [] rfl rfl (Nat.le_of_ble_eq_true rfl) (Nat.le_of_ble_eq_true rfl)) (ay_rcvV at_321 rfl) hm ?_
  refine ay_e_loc (pc := 1117) (L' := [some (.ref am_scr), some (.ref 0), some (.ref 321), some (.ref 329), some (.int i), some (.int k), some (.int b), none, none]) fe_240_1117 rfl ?_
  refine ay_e_loc (pc := 1119) fe_240_1119 rfl ?_
  refine ay_e_call (pc := 1120) (v := some (.int (D2 321 7))) fe_240_1120 (ay_args [.ref 321] [] rfl rfl (Nat.le_of_ble_eq_true rfl) (Nat.le_of_ble_eq_true rfl)) (ay_rcvV at_321 rfl) ay_m35 ?_
  refine ay_e_loc (pc := 1123) fe_240_1123 rfl ?_
  refine ay_e_pos (pc := 1125) ht fe_240_1125 rfl ?_
  refine ay_e_loc (pc := 1130) fe_240_1130 rfl ?_
  by_cases hk : k = 0
  · refine ay_e_neg (pc := 1132) (P := ¬ k = 0) (fun h => h hk) fe_240_1132 rfl ?_
    refine ay_e_loc (pc := 1135) fe_240_1135 rfl ?_
    refine ay_e_stk (pc := 1136) (S' := [.int 0, .ref 329]) fe_240_1136 rfl ?_
    refine ay_e_lal (pc := 1137) fe_240_1137 ?_
    refine ay_e_loc (pc := 1138) fe_240_1138 rfl ?_
    refine ay_e_stk (pc := 1140) (S' := [.long b.toInt64, .long (D2 329 0).toInt64]) fe_240_1140 rfl ?_
    refine ay_e_stk (pc := 1141) (S' := [.int (lg_cmp ((D2 329 0).toInt64) b.toInt64)]) fe_240_1141 rfl ?_
    refine ay_e_pos (pc := 1142) (P := lg_cmp (D2 329 0).toInt64 b.toInt64 = 0) (by rw [hz hk]; exact ay_cmp0 _) fe_240_1142 rfl ?_
    refine ay_e_br (pc := 1147) (pc' := 1743) fe_240_1147 rfl ?_
    refine ay_e_loc (pc := 1743) (L' := [some (.ref am_scr), some (.ref 0), some (.ref 321), some (.ref 329), some (.int (i + 4)), some (.int k), some (.int b), none, none]) fe_240_1743 rfl ?_
    refine ay_e_br (pc := 1746) (pc' := 23) fe_240_1746 rfl ?_
    exact ay_e_end fe_240_23 (by decide)
  · refine ay_e_pos (pc := 1132) (P := ¬ k = 0) hk fe_240_1132 rfl ?_
    refine ay_e_br (pc := 1147) (pc' := 1743) fe_240_1147 rfl ?_
    refine ay_e_loc (pc := 1743) (L' := [some (.ref am_scr), some (.ref 0), some (.ref 321), some (.ref 329), some (.int (i + 4)), some (.int k), some (.int b), none, none]) fe_240_1743 rfl ?_
    refine ay_e_br (pc := 1746) (pc' := 23) fe_240_1746 rfl ?_
    exact ay_e_end fe_240_23 (by decide)
set_option maxHeartbeats 2000000 in
theorem lw_18 {n : Nat} {xs : Nat → Int32} {i v0 v1 k b : Int32} {D D1 D2 : am_DD} {c1 s1 : Nat} (q0 : ¬ (i < 0 ∨ n ≤ i.toNatClampNeg)) (e0 : xs i.toNatClampNeg = v0) (q1 : ¬ ((i + 1) < 0 ∨ n ≤ (i + 1).toNatClampNeg)) (e1 : xs (i + 1).toNatClampNeg = v1) (hc : v0 &&& 31 = 18) (hw : ay_mc 173 [.ref 0, .int v1, .ref 329] D (some (.int k)) D1 c1 s1) (hm : ay_mo 174 [.ref 321, .int v1] D1 (.inl (some (.int b))) D2) (ht : D2 321 7 = k) (hz : k = 0 → D2 329 0 = b) : ay_lw n xs i D D2 c1 s1 := by
  refine ⟨some (.int k), some (.int b), none, none, ?_⟩
  refine ay_e_loc (pc := 32) fe_240_32 rfl ?_
  refine ay_e_loc (pc := 33) fe_240_33 rfl ?_
  refine ay_e_scr (pc := 35) (v := v0) fe_240_35 q0 e0 ?_
  refine ay_e_stk (pc := 36) (S' := [.int 31, .int v0]) fe_240_36 rfl ?_
  refine ay_e_stk (pc := 38) (S' := [.int (v0 &&& 31)]) fe_240_38 rfl ?_
  refine ay_e_br (pc := 39) (pc' := 1150) (S' := []) fe_240_39 (by rw [hc]; rfl) ?_
  refine ay_e_loc (pc := 1150) fe_240_1150 rfl ?_
  refine ay_e_loc (pc := 1151) fe_240_1151 rfl ?_
  refine ay_e_loc (pc := 1152) fe_240_1152 rfl ?_
  refine ay_e_stk (pc := 1154) (S' := [.int 1, .int i, .ref am_scr, .ref 0]) fe_240_1154 rfl ?_
  refine ay_e_stk (pc := 1155) (S' := [.int (i + 1), .ref am_scr, .ref 0]) fe_240_1155 rfl ?_
  refine ay_e_scr (pc := 1156) (v := v1) fe_240_1156 q1 e1 ?_
  refine ay_e_loc (pc := 1157) fe_240_1157 rfl ?_
  refine ay_e_callC (pc := 1158) (c := 0) (s := 0) fe_240_1158 (ay_args [.ref 0, .int v1, .ref 329] [] rfl rfl (Nat.le_of_ble_eq_true rfl) (Nat.le_of_ble_eq_true rfl)) rfl hw ?_
  refine ay_e_loc (pc := 1161) (L' := [some (.ref am_scr), some (.ref 0), some (.ref 321), some (.ref 329), some (.int i), some (.int k), none, none, none]) fe_240_1161 rfl ?_
  refine ay_e_loc (pc := 1163) fe_240_1163 rfl ?_
  refine ay_e_loc (pc := 1164) fe_240_1164 rfl ?_
  refine ay_e_loc (pc := 1165) fe_240_1165 rfl ?_
  refine ay_e_stk (pc := 1167) (S' := [.int 1, .int i, .ref am_scr, .ref 321]) fe_240_1167 rfl ?_
  refine ay_e_stk (pc := 1168) (S' := [.int (i + 1), .ref am_scr, .ref 321]) fe_240_1168 rfl ?_
  refine ay_e_scr (pc := 1169) (v := v1) fe_240_1169 q1 e1 ?_
  refine ay_e_call (pc := 1170) (v := some (.int b)) fe_240_1170 (ay_args [.ref 321, .int v1] [] rfl rfl (Nat.le_of_ble_eq_true rfl) (Nat.le_of_ble_eq_true rfl)) (ay_rcvV at_321 rfl) hm ?_
  refine ay_e_loc (pc := 1173) (L' := [some (.ref am_scr), some (.ref 0), some (.ref 321), some (.ref 329), some (.int i), some (.int k), some (.int b), none, none]) fe_240_1173 rfl ?_
  refine ay_e_loc (pc := 1175) fe_240_1175 rfl ?_
  refine ay_e_call (pc := 1176) (v := some (.int (D2 321 7))) fe_240_1176 (ay_args [.ref 321] [] rfl rfl (Nat.le_of_ble_eq_true rfl) (Nat.le_of_ble_eq_true rfl)) (ay_rcvV at_321 rfl) ay_m35 ?_
  refine ay_e_loc (pc := 1179) fe_240_1179 rfl ?_
  refine ay_e_pos (pc := 1181) ht fe_240_1181 rfl ?_
  refine ay_e_loc (pc := 1186) fe_240_1186 rfl ?_
  by_cases hk : k = 0
  · refine ay_e_neg (pc := 1188) (P := ¬ k = 0) (fun h => h hk) fe_240_1188 rfl ?_
    refine ay_e_loc (pc := 1191) fe_240_1191 rfl ?_
    refine ay_e_stk (pc := 1192) (S' := [.int 0, .ref 329]) fe_240_1192 rfl ?_
    refine ay_e_lal (pc := 1193) fe_240_1193 ?_
    refine ay_e_loc (pc := 1194) fe_240_1194 rfl ?_
    refine ay_e_stk (pc := 1196) (S' := [.long b.toInt64, .long (D2 329 0).toInt64]) fe_240_1196 rfl ?_
    refine ay_e_stk (pc := 1197) (S' := [.int (lg_cmp ((D2 329 0).toInt64) b.toInt64)]) fe_240_1197 rfl ?_
    refine ay_e_pos (pc := 1198) (P := lg_cmp (D2 329 0).toInt64 b.toInt64 = 0) (by rw [hz hk]; exact ay_cmp0 _) fe_240_1198 rfl ?_
    refine ay_e_br (pc := 1203) (pc' := 1743) fe_240_1203 rfl ?_
    refine ay_e_loc (pc := 1743) (L' := [some (.ref am_scr), some (.ref 0), some (.ref 321), some (.ref 329), some (.int (i + 4)), some (.int k), some (.int b), none, none]) fe_240_1743 rfl ?_
    refine ay_e_br (pc := 1746) (pc' := 23) fe_240_1746 rfl ?_
    exact ay_e_end fe_240_23 (by decide)
  · refine ay_e_pos (pc := 1188) (P := ¬ k = 0) hk fe_240_1188 rfl ?_
    refine ay_e_br (pc := 1203) (pc' := 1743) fe_240_1203 rfl ?_
    refine ay_e_loc (pc := 1743) (L' := [some (.ref am_scr), some (.ref 0), some (.ref 321), some (.ref 329), some (.int (i + 4)), some (.int k), some (.int b), none, none]) fe_240_1743 rfl ?_
    refine ay_e_br (pc := 1746) (pc' := 23) fe_240_1746 rfl ?_
    exact ay_e_end fe_240_23 (by decide)
set_option maxHeartbeats 2000000 in
theorem lw_19 {n : Nat} {xs : Nat → Int32} {i v0 v1 v2 k b : Int32} {D D1 D2 : am_DD} {c1 s1 : Nat} (q0 : ¬ (i < 0 ∨ n ≤ i.toNatClampNeg)) (e0 : xs i.toNatClampNeg = v0) (q1 : ¬ ((i + 1) < 0 ∨ n ≤ (i + 1).toNatClampNeg)) (e1 : xs (i + 1).toNatClampNeg = v1) (q2 : ¬ ((i + 2) < 0 ∨ n ≤ (i + 2).toNatClampNeg)) (e2 : xs (i + 2).toNatClampNeg = v2) (hc : v0 &&& 31 = 19) (hw : ay_mc 179 [.ref 0, .int v1, .int v2, .ref 329] D (some (.int k)) D1 c1 s1) (hm : ay_mo 181 [.ref 321, .int v1, .int v2] D1 (.inl (some (.int b))) D2) (ht : D2 321 7 = k) (hz : k = 0 → D2 329 0 = b) : ay_lw n xs i D D2 c1 s1 := by
  refine ⟨some (.int k), some (.int b), none, none, ?_⟩
  refine ay_e_loc (pc := 32) fe_240_32 rfl ?_
  refine ay_e_loc (pc := 33) fe_240_33 rfl ?_
  refine ay_e_scr (pc := 35) (v := v0) fe_240_35 q0 e0 ?_
  refine ay_e_stk (pc := 36) (S' := [.int 31, .int v0]) fe_240_36 rfl ?_
  refine ay_e_stk (pc := 38) (S' := [.int (v0 &&& 31)]) fe_240_38 rfl ?_
  refine ay_e_br (pc := 39) (pc' := 1206) (S' := []) fe_240_39 (by rw [hc]; rfl) ?_
  refine ay_e_loc (pc := 1206) fe_240_1206 rfl ?_
  refine ay_e_loc (pc := 1207) fe_240_1207 rfl ?_
  refine ay_e_loc (pc := 1208) fe_240_1208 rfl ?_
  refine ay_e_stk (pc := 1210) (S' := [.int 1, .int i, .ref am_scr, .ref 0]) fe_240_1210 rfl ?_
  refine ay_e_stk (pc := 1211) (S' := [.int (i + 1), .ref am_scr, .ref 0]) fe_240_1211 rfl ?_
  refine ay_e_scr (pc := 1212) (v := v1) fe_240_1212 q1 e1 ?_
  refine ay_e_loc (pc := 1213) fe_240_1213 rfl ?_
  refine ay_e_loc (pc := 1214) fe_240_1214 rfl ?_
  refine ay_e_stk (pc := 1216) (S' := [.int 2, .int i, .ref am_scr, .int v1, .ref 0]) fe_240_1216 rfl ?_
  refine ay_e_stk (pc := 1217) (S' := [.int (i + 2), .ref am_scr, .int v1, .ref 0]) fe_240_1217 rfl ?_
  refine ay_e_scr (pc := 1218) (v := v2) fe_240_1218 q2 e2 ?_
  refine ay_e_loc (pc := 1219) fe_240_1219 rfl ?_
  refine ay_e_callC (pc := 1220) (c := 0) (s := 0) fe_240_1220 (ay_args [.ref 0, .int v1, .int v2, .ref 329] [] rfl rfl (Nat.le_of_ble_eq_true rfl) (Nat.le_of_ble_eq_true rfl)) rfl hw ?_
  refine ay_e_loc (pc := 1223) (L' := [some (.ref am_scr), some (.ref 0), some (.ref 321), some (.ref 329), some (.int i), some (.int k), none, none, none]) fe_240_1223 rfl ?_
  refine ay_e_loc (pc := 1225) fe_240_1225 rfl ?_
  refine ay_e_loc (pc := 1226) fe_240_1226 rfl ?_
  refine ay_e_loc (pc := 1227) fe_240_1227 rfl ?_
  refine ay_e_stk (pc := 1229) (S' := [.int 1, .int i, .ref am_scr, .ref 321]) fe_240_1229 rfl ?_
  refine ay_e_stk (pc := 1230) (S' := [.int (i + 1), .ref am_scr, .ref 321]) fe_240_1230 rfl ?_
  refine ay_e_scr (pc := 1231) (v := v1) fe_240_1231 q1 e1 ?_
  refine ay_e_loc (pc := 1232) fe_240_1232 rfl ?_
  refine ay_e_loc (pc := 1233) fe_240_1233 rfl ?_
  refine ay_e_stk (pc := 1235) (S' := [.int 2, .int i, .ref am_scr, .int v1, .ref 321]) fe_240_1235 rfl ?_
  refine ay_e_stk (pc := 1236) (S' := [.int (i + 2), .ref am_scr, .int v1, .ref 321]) fe_240_1236 rfl ?_
  refine ay_e_scr (pc := 1237) (v := v2) fe_240_1237 q2 e2 ?_
  refine ay_e_call (pc := 1238) (v := some (.int b)) fe_240_1238 (ay_args [.ref 321, .int v1, .int v2] [] rfl rfl (Nat.le_of_ble_eq_true rfl) (Nat.le_of_ble_eq_true rfl)) (ay_rcvV at_321 rfl) hm ?_
  refine ay_e_loc (pc := 1241) (L' := [some (.ref am_scr), some (.ref 0), some (.ref 321), some (.ref 329), some (.int i), some (.int k), some (.int b), none, none]) fe_240_1241 rfl ?_
  refine ay_e_loc (pc := 1243) fe_240_1243 rfl ?_
  refine ay_e_call (pc := 1244) (v := some (.int (D2 321 7))) fe_240_1244 (ay_args [.ref 321] [] rfl rfl (Nat.le_of_ble_eq_true rfl) (Nat.le_of_ble_eq_true rfl)) (ay_rcvV at_321 rfl) ay_m35 ?_
  refine ay_e_loc (pc := 1247) fe_240_1247 rfl ?_
  refine ay_e_pos (pc := 1249) ht fe_240_1249 rfl ?_
  refine ay_e_loc (pc := 1254) fe_240_1254 rfl ?_
  by_cases hk : k = 0
  · refine ay_e_neg (pc := 1256) (P := ¬ k = 0) (fun h => h hk) fe_240_1256 rfl ?_
    refine ay_e_loc (pc := 1259) fe_240_1259 rfl ?_
    refine ay_e_stk (pc := 1260) (S' := [.int 0, .ref 329]) fe_240_1260 rfl ?_
    refine ay_e_lal (pc := 1261) fe_240_1261 ?_
    refine ay_e_loc (pc := 1262) fe_240_1262 rfl ?_
    refine ay_e_stk (pc := 1264) (S' := [.long b.toInt64, .long (D2 329 0).toInt64]) fe_240_1264 rfl ?_
    refine ay_e_stk (pc := 1265) (S' := [.int (lg_cmp ((D2 329 0).toInt64) b.toInt64)]) fe_240_1265 rfl ?_
    refine ay_e_pos (pc := 1266) (P := lg_cmp (D2 329 0).toInt64 b.toInt64 = 0) (by rw [hz hk]; exact ay_cmp0 _) fe_240_1266 rfl ?_
    refine ay_e_br (pc := 1271) (pc' := 1743) fe_240_1271 rfl ?_
    refine ay_e_loc (pc := 1743) (L' := [some (.ref am_scr), some (.ref 0), some (.ref 321), some (.ref 329), some (.int (i + 4)), some (.int k), some (.int b), none, none]) fe_240_1743 rfl ?_
    refine ay_e_br (pc := 1746) (pc' := 23) fe_240_1746 rfl ?_
    exact ay_e_end fe_240_23 (by decide)
  · refine ay_e_pos (pc := 1256) (P := ¬ k = 0) hk fe_240_1256 rfl ?_
    refine ay_e_br (pc := 1271) (pc' := 1743) fe_240_1271 rfl ?_
    refine ay_e_loc (pc := 1743) (L' := [some (.ref am_scr), some (.ref 0), some (.ref 321), some (.ref 329), some (.int (i + 4)), some (.int k), some (.int b), none, none]) fe_240_1743 rfl ?_
    refine ay_e_br (pc := 1746) (pc' := 23) fe_240_1746 rfl ?_
    exact ay_e_end fe_240_23 (by decide)
set_option maxHeartbeats 2000000 in
theorem lw_20 {n : Nat} {xs : Nat → Int32} {i v0 v1 k b : Int32} {D D1 D2 : am_DD} {c1 s1 : Nat} (q0 : ¬ (i < 0 ∨ n ≤ i.toNatClampNeg)) (e0 : xs i.toNatClampNeg = v0) (q1 : ¬ ((i + 1) < 0 ∨ n ≤ (i + 1).toNatClampNeg)) (e1 : xs (i + 1).toNatClampNeg = v1) (hc : v0 &&& 31 = 20) (hw : ay_mc 184 [.ref 0, .int v1, .ref 329] D (some (.int k)) D1 c1 s1) (hm : ay_mo 186 [.ref 321, .int v1] D1 (.inl (some (.int b))) D2) (ht : D2 321 7 = k) (hz : k = 0 → D2 329 0 = b) : ay_lw n xs i D D2 c1 s1 := by
  refine ⟨some (.int k), some (.int b), none, none, ?_⟩
  refine ay_e_loc (pc := 32) fe_240_32 rfl ?_
  refine ay_e_loc (pc := 33) fe_240_33 rfl ?_
  refine ay_e_scr (pc := 35) (v := v0) fe_240_35 q0 e0 ?_
  refine ay_e_stk (pc := 36) (S' := [.int 31, .int v0]) fe_240_36 rfl ?_
  refine ay_e_stk (pc := 38) (S' := [.int (v0 &&& 31)]) fe_240_38 rfl ?_
  refine ay_e_br (pc := 39) (pc' := 1274) (S' := []) fe_240_39 (by rw [hc]; rfl) ?_
  refine ay_e_loc (pc := 1274) fe_240_1274 rfl ?_
  refine ay_e_loc (pc := 1275) fe_240_1275 rfl ?_
  refine ay_e_loc (pc := 1276) fe_240_1276 rfl ?_
  refine ay_e_stk (pc := 1278) (S' := [.int 1, .int i, .ref am_scr, .ref 0]) fe_240_1278 rfl ?_
  refine ay_e_stk (pc := 1279) (S' := [.int (i + 1), .ref am_scr, .ref 0]) fe_240_1279 rfl ?_
  refine ay_e_scr (pc := 1280) (v := v1) fe_240_1280 q1 e1 ?_
  refine ay_e_loc (pc := 1281) fe_240_1281 rfl ?_
  refine ay_e_callC (pc := 1282) (c := 0) (s := 0) fe_240_1282 (ay_args [.ref 0, .int v1, .ref 329] [] rfl rfl (Nat.le_of_ble_eq_true rfl) (Nat.le_of_ble_eq_true rfl)) rfl hw ?_
  refine ay_e_loc (pc := 1285) (L' := [some (.ref am_scr), some (.ref 0), some (.ref 321), some (.ref 329), some (.int i), some (.int k), none, none, none]) fe_240_1285 rfl ?_
  refine ay_e_loc (pc := 1287) fe_240_1287 rfl ?_
  refine ay_e_loc (pc := 1288) fe_240_1288 rfl ?_
  refine ay_e_loc (pc := 1289) fe_240_1289 rfl ?_
  refine ay_e_stk (pc := 1291) (S' := [.int 1, .int i, .ref am_scr, .ref 321]) fe_240_1291 rfl ?_
  refine ay_e_stk (pc := 1292) (S' := [.int (i + 1), .ref am_scr, .ref 321]) fe_240_1292 rfl ?_
  refine ay_e_scr (pc := 1293) (v := v1) fe_240_1293 q1 e1 ?_
  refine ay_e_call (pc := 1294) (v := some (.int b)) fe_240_1294 (ay_args [.ref 321, .int v1] [] rfl rfl (Nat.le_of_ble_eq_true rfl) (Nat.le_of_ble_eq_true rfl)) (ay_rcvV at_321 rfl) hm ?_
  refine ay_e_loc (pc := 1297) (L' := [some (.ref am_scr), some (.ref 0), some (.ref 321), some (.ref 329), some (.int i), some (.int k), some (.int b), none, none]) fe_240_1297 rfl ?_
  refine ay_e_loc (pc := 1299) fe_240_1299 rfl ?_
  refine ay_e_call (pc := 1300) (v := some (.int (D2 321 7))) fe_240_1300 (ay_args [.ref 321] [] rfl rfl (Nat.le_of_ble_eq_true rfl) (Nat.le_of_ble_eq_true rfl)) (ay_rcvV at_321 rfl) ay_m35 ?_
  refine ay_e_loc (pc := 1303) fe_240_1303 rfl ?_
  refine ay_e_pos (pc := 1305) ht fe_240_1305 rfl ?_
  refine ay_e_loc (pc := 1310) fe_240_1310 rfl ?_
  by_cases hk : k = 0
  · refine ay_e_neg (pc := 1312) (P := ¬ k = 0) (fun h => h hk) fe_240_1312 rfl ?_
    refine ay_e_loc (pc := 1315) fe_240_1315 rfl ?_
    refine ay_e_stk (pc := 1316) (S' := [.int 0, .ref 329]) fe_240_1316 rfl ?_
    refine ay_e_lal (pc := 1317) fe_240_1317 ?_
    refine ay_e_loc (pc := 1318) fe_240_1318 rfl ?_
    refine ay_e_stk (pc := 1320) (S' := [.long b.toInt64, .long (D2 329 0).toInt64]) fe_240_1320 rfl ?_
    refine ay_e_stk (pc := 1321) (S' := [.int (lg_cmp ((D2 329 0).toInt64) b.toInt64)]) fe_240_1321 rfl ?_
    refine ay_e_pos (pc := 1322) (P := lg_cmp (D2 329 0).toInt64 b.toInt64 = 0) (by rw [hz hk]; exact ay_cmp0 _) fe_240_1322 rfl ?_
    refine ay_e_br (pc := 1327) (pc' := 1743) fe_240_1327 rfl ?_
    refine ay_e_loc (pc := 1743) (L' := [some (.ref am_scr), some (.ref 0), some (.ref 321), some (.ref 329), some (.int (i + 4)), some (.int k), some (.int b), none, none]) fe_240_1743 rfl ?_
    refine ay_e_br (pc := 1746) (pc' := 23) fe_240_1746 rfl ?_
    exact ay_e_end fe_240_23 (by decide)
  · refine ay_e_pos (pc := 1312) (P := ¬ k = 0) hk fe_240_1312 rfl ?_
    refine ay_e_br (pc := 1327) (pc' := 1743) fe_240_1327 rfl ?_
    refine ay_e_loc (pc := 1743) (L' := [some (.ref am_scr), some (.ref 0), some (.ref 321), some (.ref 329), some (.int (i + 4)), some (.int k), some (.int b), none, none]) fe_240_1743 rfl ?_
    refine ay_e_br (pc := 1746) (pc' := 23) fe_240_1746 rfl ?_
    exact ay_e_end fe_240_23 (by decide)
set_option maxHeartbeats 2000000 in
theorem lw_21 {n : Nat} {xs : Nat → Int32} {i v0 v1 k b : Int32} {D D1 D2 : am_DD} {c1 s1 : Nat} (q0 : ¬ (i < 0 ∨ n ≤ i.toNatClampNeg)) (e0 : xs i.toNatClampNeg = v0) (q1 : ¬ ((i + 1) < 0 ∨ n ≤ (i + 1).toNatClampNeg)) (e1 : xs (i + 1).toNatClampNeg = v1) (hc : v0 &&& 31 = 21) (hw : ay_mc 198 [.ref 0, .int v1, .ref 329] D (some (.int k)) D1 c1 s1) (hm : ay_mo 206 [.ref 321, .int v1] D1 (.inl (some (.int b))) D2) (ht : D2 321 7 = k) (hz : k = 0 → D2 329 0 = b) : ay_lw n xs i D D2 c1 s1 := by
  refine ⟨some (.int k), some (.int b), none, none, ?_⟩
  refine ay_e_loc (pc := 32) fe_240_32 rfl ?_
  refine ay_e_loc (pc := 33) fe_240_33 rfl ?_
  refine ay_e_scr (pc := 35) (v := v0) fe_240_35 q0 e0 ?_
  refine ay_e_stk (pc := 36) (S' := [.int 31, .int v0]) fe_240_36 rfl ?_
  refine ay_e_stk (pc := 38) (S' := [.int (v0 &&& 31)]) fe_240_38 rfl ?_
  refine ay_e_br (pc := 39) (pc' := 1330) (S' := []) fe_240_39 (by rw [hc]; rfl) ?_
  refine ay_e_loc (pc := 1330) fe_240_1330 rfl ?_
  refine ay_e_loc (pc := 1331) fe_240_1331 rfl ?_
  refine ay_e_loc (pc := 1332) fe_240_1332 rfl ?_
  refine ay_e_stk (pc := 1334) (S' := [.int 1, .int i, .ref am_scr, .ref 0]) fe_240_1334 rfl ?_
  refine ay_e_stk (pc := 1335) (S' := [.int (i + 1), .ref am_scr, .ref 0]) fe_240_1335 rfl ?_
  refine ay_e_scr (pc := 1336) (v := v1) fe_240_1336 q1 e1 ?_
  refine ay_e_loc (pc := 1337) fe_240_1337 rfl ?_
  refine ay_e_callC (pc := 1338) (c := 0) (s := 0) fe_240_1338 (ay_args [.ref 0, .int v1, .ref 329] [] rfl rfl (Nat.le_of_ble_eq_true rfl) (Nat.le_of_ble_eq_true rfl)) rfl hw ?_
  refine ay_e_loc (pc := 1341) (L' := [some (.ref am_scr), some (.ref 0), some (.ref 321), some (.ref 329), some (.int i), some (.int k), none, none, none]) fe_240_1341 rfl ?_
  refine ay_e_loc (pc := 1343) fe_240_1343 rfl ?_
  refine ay_e_loc (pc := 1344) fe_240_1344 rfl ?_
  refine ay_e_loc (pc := 1345) fe_240_1345 rfl ?_
  refine ay_e_stk (pc := 1347) (S' := [.int 1, .int i, .ref am_scr, .ref 321]) fe_240_1347 rfl ?_
  refine ay_e_stk (pc := 1348) (S' := [.int (i + 1), .ref am_scr, .ref 321]) fe_240_1348 rfl ?_
  refine ay_e_scr (pc := 1349) (v := v1) fe_240_1349 q1 e1 ?_
  refine ay_e_call (pc := 1350) (v := some (.int b)) fe_240_1350 (ay_args [.ref 321, .int v1] [] rfl rfl (Nat.le_of_ble_eq_true rfl) (Nat.le_of_ble_eq_true rfl)) (ay_rcvV at_321 rfl) hm ?_
  refine ay_e_loc (pc := 1353) (L' := [some (.ref am_scr), some (.ref 0), some (.ref 321), some (.ref 329), some (.int i), some (.int k), some (.int b), none, none]) fe_240_1353 rfl ?_
  refine ay_e_loc (pc := 1355) fe_240_1355 rfl ?_
  refine ay_e_call (pc := 1356) (v := some (.int (D2 321 7))) fe_240_1356 (ay_args [.ref 321] [] rfl rfl (Nat.le_of_ble_eq_true rfl) (Nat.le_of_ble_eq_true rfl)) (ay_rcvV at_321 rfl) ay_m35 ?_
  refine ay_e_loc (pc := 1359) fe_240_1359 rfl ?_
  refine ay_e_pos (pc := 1361) ht fe_240_1361 rfl ?_
  refine ay_e_loc (pc := 1366) fe_240_1366 rfl ?_
  by_cases hk : k = 0
  · refine ay_e_neg (pc := 1368) (P := ¬ k = 0) (fun h => h hk) fe_240_1368 rfl ?_
    refine ay_e_loc (pc := 1371) fe_240_1371 rfl ?_
    refine ay_e_stk (pc := 1372) (S' := [.int 0, .ref 329]) fe_240_1372 rfl ?_
    refine ay_e_lal (pc := 1373) fe_240_1373 ?_
    refine ay_e_loc (pc := 1374) fe_240_1374 rfl ?_
    refine ay_e_stk (pc := 1376) (S' := [.long b.toInt64, .long (D2 329 0).toInt64]) fe_240_1376 rfl ?_
    refine ay_e_stk (pc := 1377) (S' := [.int (lg_cmp ((D2 329 0).toInt64) b.toInt64)]) fe_240_1377 rfl ?_
    refine ay_e_pos (pc := 1378) (P := lg_cmp (D2 329 0).toInt64 b.toInt64 = 0) (by rw [hz hk]; exact ay_cmp0 _) fe_240_1378 rfl ?_
    refine ay_e_br (pc := 1383) (pc' := 1743) fe_240_1383 rfl ?_
    refine ay_e_loc (pc := 1743) (L' := [some (.ref am_scr), some (.ref 0), some (.ref 321), some (.ref 329), some (.int (i + 4)), some (.int k), some (.int b), none, none]) fe_240_1743 rfl ?_
    refine ay_e_br (pc := 1746) (pc' := 23) fe_240_1746 rfl ?_
    exact ay_e_end fe_240_23 (by decide)
  · refine ay_e_pos (pc := 1368) (P := ¬ k = 0) hk fe_240_1368 rfl ?_
    refine ay_e_br (pc := 1383) (pc' := 1743) fe_240_1383 rfl ?_
    refine ay_e_loc (pc := 1743) (L' := [some (.ref am_scr), some (.ref 0), some (.ref 321), some (.ref 329), some (.int (i + 4)), some (.int k), some (.int b), none, none]) fe_240_1743 rfl ?_
    refine ay_e_br (pc := 1746) (pc' := 23) fe_240_1746 rfl ?_
    exact ay_e_end fe_240_23 (by decide)
set_option maxHeartbeats 2000000 in
theorem lw_23 {n : Nat} {xs : Nat → Int32} {i v0 v1 v2 v3 k b : Int32} {D D1 D2 : am_DD} {c1 s1 : Nat} (q0 : ¬ (i < 0 ∨ n ≤ i.toNatClampNeg)) (e0 : xs i.toNatClampNeg = v0) (q1 : ¬ ((i + 1) < 0 ∨ n ≤ (i + 1).toNatClampNeg)) (e1 : xs (i + 1).toNatClampNeg = v1) (q2 : ¬ ((i + 2) < 0 ∨ n ≤ (i + 2).toNatClampNeg)) (e2 : xs (i + 2).toNatClampNeg = v2) (q3 : ¬ ((i + 3) < 0 ∨ n ≤ (i + 3).toNatClampNeg)) (e3 : xs (i + 3).toNatClampNeg = v3) (hc : v0 &&& 31 = 23) (hw : ay_mc 216 [.ref 0, .int v1, .int v2, .int v3, .ref 329] D (some (.int k)) D1 c1 s1) (hm : ay_mo 219 [.ref 321, .int v1, .int v2, .int v3] D1 (.inl (some (.int b))) D2) (ht : D2 321 7 = k) (hz : k = 0 → D2 329 0 = b) : ay_lw n xs i D D2 c1 s1 := by
  refine ⟨some (.int k), some (.int b), none, none, ?_⟩
  refine ay_e_loc (pc := 32) fe_240_32 rfl ?_
  refine ay_e_loc (pc := 33) fe_240_33 rfl ?_
  refine ay_e_scr (pc := 35) (v := v0) fe_240_35 q0 e0 ?_
  refine ay_e_stk (pc := 36) (S' := [.int 31, .int v0]) fe_240_36 rfl ?_
  refine ay_e_stk (pc := 38) (S' := [.int (v0 &&& 31)]) fe_240_38 rfl ?_
  refine ay_e_br (pc := 39) (pc' := 1429) (S' := []) fe_240_39 (by rw [hc]; rfl) ?_
  refine ay_e_loc (pc := 1429) fe_240_1429 rfl ?_
  refine ay_e_loc (pc := 1430) fe_240_1430 rfl ?_
  refine ay_e_loc (pc := 1431) fe_240_1431 rfl ?_
  refine ay_e_stk (pc := 1433) (S' := [.int 1, .int i, .ref am_scr, .ref 0]) fe_240_1433 rfl ?_
  refine ay_e_stk (pc := 1434) (S' := [.int (i + 1), .ref am_scr, .ref 0]) fe_240_1434 rfl ?_
  refine ay_e_scr (pc := 1435) (v := v1) fe_240_1435 q1 e1 ?_
  refine ay_e_loc (pc := 1436) fe_240_1436 rfl ?_
  refine ay_e_loc (pc := 1437) fe_240_1437 rfl ?_
  refine ay_e_stk (pc := 1439) (S' := [.int 2, .int i, .ref am_scr, .int v1, .ref 0]) fe_240_1439 rfl ?_
  refine ay_e_stk (pc := 1440) (S' := [.int (i + 2), .ref am_scr, .int v1, .ref 0]) fe_240_1440 rfl ?_
  refine ay_e_scr (pc := 1441) (v := v2) fe_240_1441 q2 e2 ?_
  refine ay_e_loc (pc := 1442) fe_240_1442 rfl ?_
  refine ay_e_loc (pc := 1443) fe_240_1443 rfl ?_
  refine ay_e_stk (pc := 1445) (S' := [.int 3, .int i, .ref am_scr, .int v2, .int v1, .ref 0]) fe_240_1445 rfl ?_
  refine ay_e_stk (pc := 1446) (S' := [.int (i + 3), .ref am_scr, .int v2, .int v1, .ref 0]) fe_240_1446 rfl ?_
  refine ay_e_scr (pc := 1447) (v := v3) fe_240_1447 q3 e3 ?_
  refine ay_e_loc (pc := 1448) fe_240_1448 rfl ?_
  refine ay_e_callC (pc := 1449) (c := 0) (s := 0) fe_240_1449 (ay_args [.ref 0, .int v1, .int v2, .int v3, .ref 329] [] rfl rfl (Nat.le_of_ble_eq_true rfl) (Nat.le_of_ble_eq_true rfl)) rfl hw ?_
  refine ay_e_loc (pc := 1452) (L' := [some (.ref am_scr), some (.ref 0), some (.ref 321), some (.ref 329), some (.int i), some (.int k), none, none, none]) fe_240_1452 rfl ?_
  refine ay_e_loc (pc := 1454) fe_240_1454 rfl ?_
  refine ay_e_loc (pc := 1455) fe_240_1455 rfl ?_
  refine ay_e_loc (pc := 1456) fe_240_1456 rfl ?_
  refine ay_e_stk (pc := 1458) (S' := [.int 1, .int i, .ref am_scr, .ref 321]) fe_240_1458 rfl ?_
  refine ay_e_stk (pc := 1459) (S' := [.int (i + 1), .ref am_scr, .ref 321]) fe_240_1459 rfl ?_
  refine ay_e_scr (pc := 1460) (v := v1) fe_240_1460 q1 e1 ?_
  refine ay_e_loc (pc := 1461) fe_240_1461 rfl ?_
  refine ay_e_loc (pc := 1462) fe_240_1462 rfl ?_
  refine ay_e_stk (pc := 1464) (S' := [.int 2, .int i, .ref am_scr, .int v1, .ref 321]) fe_240_1464 rfl ?_
  refine ay_e_stk (pc := 1465) (S' := [.int (i + 2), .ref am_scr, .int v1, .ref 321]) fe_240_1465 rfl ?_
  refine ay_e_scr (pc := 1466) (v := v2) fe_240_1466 q2 e2 ?_
  refine ay_e_loc (pc := 1467) fe_240_1467 rfl ?_
  refine ay_e_loc (pc := 1468) fe_240_1468 rfl ?_
  refine ay_e_stk (pc := 1470) (S' := [.int 3, .int i, .ref am_scr, .int v2, .int v1, .ref 321]) fe_240_1470 rfl ?_
  refine ay_e_stk (pc := 1471) (S' := [.int (i + 3), .ref am_scr, .int v2, .int v1, .ref 321]) fe_240_1471 rfl ?_
  refine ay_e_scr (pc := 1472) (v := v3) fe_240_1472 q3 e3 ?_
  refine ay_e_call (pc := 1473) (v := some (.int b)) fe_240_1473 (ay_args [.ref 321, .int v1, .int v2, .int v3] [] rfl rfl (Nat.le_of_ble_eq_true rfl) (Nat.le_of_ble_eq_true rfl)) (ay_rcvV at_321 rfl) hm ?_
  refine ay_e_loc (pc := 1476) (L' := [some (.ref am_scr), some (.ref 0), some (.ref 321), some (.ref 329), some (.int i), some (.int k), some (.int b), none, none]) fe_240_1476 rfl ?_
  refine ay_e_loc (pc := 1478) fe_240_1478 rfl ?_
  refine ay_e_call (pc := 1479) (v := some (.int (D2 321 7))) fe_240_1479 (ay_args [.ref 321] [] rfl rfl (Nat.le_of_ble_eq_true rfl) (Nat.le_of_ble_eq_true rfl)) (ay_rcvV at_321 rfl) ay_m35 ?_
  refine ay_e_loc (pc := 1482) fe_240_1482 rfl ?_
  refine ay_e_pos (pc := 1484) ht fe_240_1484 rfl ?_
  refine ay_e_loc (pc := 1489) fe_240_1489 rfl ?_
  by_cases hk : k = 0
  · refine ay_e_neg (pc := 1491) (P := ¬ k = 0) (fun h => h hk) fe_240_1491 rfl ?_
    refine ay_e_loc (pc := 1494) fe_240_1494 rfl ?_
    refine ay_e_stk (pc := 1495) (S' := [.int 0, .ref 329]) fe_240_1495 rfl ?_
    refine ay_e_lal (pc := 1496) fe_240_1496 ?_
    refine ay_e_loc (pc := 1497) fe_240_1497 rfl ?_
    refine ay_e_stk (pc := 1499) (S' := [.long b.toInt64, .long (D2 329 0).toInt64]) fe_240_1499 rfl ?_
    refine ay_e_stk (pc := 1500) (S' := [.int (lg_cmp ((D2 329 0).toInt64) b.toInt64)]) fe_240_1500 rfl ?_
    refine ay_e_pos (pc := 1501) (P := lg_cmp (D2 329 0).toInt64 b.toInt64 = 0) (by rw [hz hk]; exact ay_cmp0 _) fe_240_1501 rfl ?_
    refine ay_e_br (pc := 1506) (pc' := 1743) fe_240_1506 rfl ?_
    refine ay_e_loc (pc := 1743) (L' := [some (.ref am_scr), some (.ref 0), some (.ref 321), some (.ref 329), some (.int (i + 4)), some (.int k), some (.int b), none, none]) fe_240_1743 rfl ?_
    refine ay_e_br (pc := 1746) (pc' := 23) fe_240_1746 rfl ?_
    exact ay_e_end fe_240_23 (by decide)
  · refine ay_e_pos (pc := 1491) (P := ¬ k = 0) hk fe_240_1491 rfl ?_
    refine ay_e_br (pc := 1506) (pc' := 1743) fe_240_1506 rfl ?_
    refine ay_e_loc (pc := 1743) (L' := [some (.ref am_scr), some (.ref 0), some (.ref 321), some (.ref 329), some (.int (i + 4)), some (.int k), some (.int b), none, none]) fe_240_1743 rfl ?_
    refine ay_e_br (pc := 1746) (pc' := 23) fe_240_1746 rfl ?_
    exact ay_e_end fe_240_23 (by decide)
set_option maxHeartbeats 2000000 in
theorem lw_24 {n : Nat} {xs : Nat → Int32} {i v0 v1 v2 k b : Int32} {D D1 D2 : am_DD} {c1 s1 : Nat} (q0 : ¬ (i < 0 ∨ n ≤ i.toNatClampNeg)) (e0 : xs i.toNatClampNeg = v0) (q1 : ¬ ((i + 1) < 0 ∨ n ≤ (i + 1).toNatClampNeg)) (e1 : xs (i + 1).toNatClampNeg = v1) (q2 : ¬ ((i + 2) < 0 ∨ n ≤ (i + 2).toNatClampNeg)) (e2 : xs (i + 2).toNatClampNeg = v2) (hc : v0 &&& 31 = 24) (hw : ay_mc 222 [.ref 0, .int v1, .int v2, .ref 329] D (some (.int k)) D1 c1 s1) (hm : ay_mo 223 [.ref 321, .int v1, .int v2] D1 (.inl (some (.int b))) D2) (ht : D2 321 7 = k) (hz : k = 0 → D2 329 0 = b) : ay_lw n xs i D D2 c1 s1 := by
  refine ⟨some (.int k), some (.int b), none, none, ?_⟩
  refine ay_e_loc (pc := 32) fe_240_32 rfl ?_
  refine ay_e_loc (pc := 33) fe_240_33 rfl ?_
  refine ay_e_scr (pc := 35) (v := v0) fe_240_35 q0 e0 ?_
  refine ay_e_stk (pc := 36) (S' := [.int 31, .int v0]) fe_240_36 rfl ?_
  refine ay_e_stk (pc := 38) (S' := [.int (v0 &&& 31)]) fe_240_38 rfl ?_
  refine ay_e_br (pc := 39) (pc' := 1509) (S' := []) fe_240_39 (by rw [hc]; rfl) ?_
  refine ay_e_loc (pc := 1509) fe_240_1509 rfl ?_
  refine ay_e_loc (pc := 1510) fe_240_1510 rfl ?_
  refine ay_e_loc (pc := 1511) fe_240_1511 rfl ?_
  refine ay_e_stk (pc := 1513) (S' := [.int 1, .int i, .ref am_scr, .ref 0]) fe_240_1513 rfl ?_
  refine ay_e_stk (pc := 1514) (S' := [.int (i + 1), .ref am_scr, .ref 0]) fe_240_1514 rfl ?_
  refine ay_e_scr (pc := 1515) (v := v1) fe_240_1515 q1 e1 ?_
  refine ay_e_loc (pc := 1516) fe_240_1516 rfl ?_
  refine ay_e_loc (pc := 1517) fe_240_1517 rfl ?_
  refine ay_e_stk (pc := 1519) (S' := [.int 2, .int i, .ref am_scr, .int v1, .ref 0]) fe_240_1519 rfl ?_
  refine ay_e_stk (pc := 1520) (S' := [.int (i + 2), .ref am_scr, .int v1, .ref 0]) fe_240_1520 rfl ?_
  refine ay_e_scr (pc := 1521) (v := v2) fe_240_1521 q2 e2 ?_
  refine ay_e_loc (pc := 1522) fe_240_1522 rfl ?_
  refine ay_e_callC (pc := 1523) (c := 0) (s := 0) fe_240_1523 (ay_args [.ref 0, .int v1, .int v2, .ref 329] [] rfl rfl (Nat.le_of_ble_eq_true rfl) (Nat.le_of_ble_eq_true rfl)) rfl hw ?_
  refine ay_e_loc (pc := 1526) (L' := [some (.ref am_scr), some (.ref 0), some (.ref 321), some (.ref 329), some (.int i), some (.int k), none, none, none]) fe_240_1526 rfl ?_
  refine ay_e_loc (pc := 1528) fe_240_1528 rfl ?_
  refine ay_e_loc (pc := 1529) fe_240_1529 rfl ?_
  refine ay_e_loc (pc := 1530) fe_240_1530 rfl ?_
  refine ay_e_stk (pc := 1532) (S' := [.int 1, .int i, .ref am_scr, .ref 321]) fe_240_1532 rfl ?_
  refine ay_e_stk (pc := 1533) (S' := [.int (i + 1), .ref am_scr, .ref 321]) fe_240_1533 rfl ?_
  refine ay_e_scr (pc := 1534) (v := v1) fe_240_1534 q1 e1 ?_
  refine ay_e_loc (pc := 1535) fe_240_1535 rfl ?_
  refine ay_e_loc (pc := 1536) fe_240_1536 rfl ?_
  refine ay_e_stk (pc := 1538) (S' := [.int 2, .int i, .ref am_scr, .int v1, .ref 321]) fe_240_1538 rfl ?_
  refine ay_e_stk (pc := 1539) (S' := [.int (i + 2), .ref am_scr, .int v1, .ref 321]) fe_240_1539 rfl ?_
  refine ay_e_scr (pc := 1540) (v := v2) fe_240_1540 q2 e2 ?_
  refine ay_e_call (pc := 1541) (v := some (.int b)) fe_240_1541 (ay_args [.ref 321, .int v1, .int v2] [] rfl rfl (Nat.le_of_ble_eq_true rfl) (Nat.le_of_ble_eq_true rfl)) (ay_rcvV at_321 rfl) hm ?_
  refine ay_e_loc (pc := 1544) (L' := [some (.ref am_scr), some (.ref 0), some (.ref 321), some (.ref 329), some (.int i), some (.int k), some (.int b), none, none]) fe_240_1544 rfl ?_
  refine ay_e_loc (pc := 1546) fe_240_1546 rfl ?_
  refine ay_e_call (pc := 1547) (v := some (.int (D2 321 7))) fe_240_1547 (ay_args [.ref 321] [] rfl rfl (Nat.le_of_ble_eq_true rfl) (Nat.le_of_ble_eq_true rfl)) (ay_rcvV at_321 rfl) ay_m35 ?_
  refine ay_e_loc (pc := 1550) fe_240_1550 rfl ?_
  refine ay_e_pos (pc := 1552) ht fe_240_1552 rfl ?_
  refine ay_e_loc (pc := 1557) fe_240_1557 rfl ?_
  by_cases hk : k = 0
  · refine ay_e_neg (pc := 1559) (P := ¬ k = 0) (fun h => h hk) fe_240_1559 rfl ?_
    refine ay_e_loc (pc := 1562) fe_240_1562 rfl ?_
    refine ay_e_stk (pc := 1563) (S' := [.int 0, .ref 329]) fe_240_1563 rfl ?_
    refine ay_e_lal (pc := 1564) fe_240_1564 ?_
    refine ay_e_loc (pc := 1565) fe_240_1565 rfl ?_
    refine ay_e_stk (pc := 1567) (S' := [.long b.toInt64, .long (D2 329 0).toInt64]) fe_240_1567 rfl ?_
    refine ay_e_stk (pc := 1568) (S' := [.int (lg_cmp ((D2 329 0).toInt64) b.toInt64)]) fe_240_1568 rfl ?_
    refine ay_e_pos (pc := 1569) (P := lg_cmp (D2 329 0).toInt64 b.toInt64 = 0) (by rw [hz hk]; exact ay_cmp0 _) fe_240_1569 rfl ?_
    refine ay_e_br (pc := 1574) (pc' := 1743) fe_240_1574 rfl ?_
    refine ay_e_loc (pc := 1743) (L' := [some (.ref am_scr), some (.ref 0), some (.ref 321), some (.ref 329), some (.int (i + 4)), some (.int k), some (.int b), none, none]) fe_240_1743 rfl ?_
    refine ay_e_br (pc := 1746) (pc' := 23) fe_240_1746 rfl ?_
    exact ay_e_end fe_240_23 (by decide)
  · refine ay_e_pos (pc := 1559) (P := ¬ k = 0) hk fe_240_1559 rfl ?_
    refine ay_e_br (pc := 1574) (pc' := 1743) fe_240_1574 rfl ?_
    refine ay_e_loc (pc := 1743) (L' := [some (.ref am_scr), some (.ref 0), some (.ref 321), some (.ref 329), some (.int (i + 4)), some (.int k), some (.int b), none, none]) fe_240_1743 rfl ?_
    refine ay_e_br (pc := 1746) (pc' := 23) fe_240_1746 rfl ?_
    exact ay_e_end fe_240_23 (by decide)
set_option maxHeartbeats 2000000 in
theorem lw_25 {n : Nat} {xs : Nat → Int32} {i v0 v1 k b : Int32} {D D1 D2 : am_DD} {c1 s1 : Nat} (q0 : ¬ (i < 0 ∨ n ≤ i.toNatClampNeg)) (e0 : xs i.toNatClampNeg = v0) (q1 : ¬ ((i + 1) < 0 ∨ n ≤ (i + 1).toNatClampNeg)) (e1 : xs (i + 1).toNatClampNeg = v1) (hc : v0 &&& 31 = 25) (hw : ay_mc 226 [.ref 0, .int v1, .ref 329] D (some (.int k)) D1 c1 s1) (hm : ay_mo 227 [.ref 321, .int v1] D1 (.inl (some (.int b))) D2) (ht : D2 321 7 = k) (hz : k = 0 → D2 329 0 = b) : ay_lw n xs i D D2 c1 s1 := by
  refine ⟨some (.int k), some (.int b), none, none, ?_⟩
  refine ay_e_loc (pc := 32) fe_240_32 rfl ?_
  refine ay_e_loc (pc := 33) fe_240_33 rfl ?_
  refine ay_e_scr (pc := 35) (v := v0) fe_240_35 q0 e0 ?_
  refine ay_e_stk (pc := 36) (S' := [.int 31, .int v0]) fe_240_36 rfl ?_
  refine ay_e_stk (pc := 38) (S' := [.int (v0 &&& 31)]) fe_240_38 rfl ?_
  refine ay_e_br (pc := 39) (pc' := 1577) (S' := []) fe_240_39 (by rw [hc]; rfl) ?_
  refine ay_e_loc (pc := 1577) fe_240_1577 rfl ?_
  refine ay_e_loc (pc := 1578) fe_240_1578 rfl ?_
  refine ay_e_loc (pc := 1579) fe_240_1579 rfl ?_
  refine ay_e_stk (pc := 1581) (S' := [.int 1, .int i, .ref am_scr, .ref 0]) fe_240_1581 rfl ?_
  refine ay_e_stk (pc := 1582) (S' := [.int (i + 1), .ref am_scr, .ref 0]) fe_240_1582 rfl ?_
  refine ay_e_scr (pc := 1583) (v := v1) fe_240_1583 q1 e1 ?_
  refine ay_e_loc (pc := 1584) fe_240_1584 rfl ?_
  refine ay_e_callC (pc := 1585) (c := 0) (s := 0) fe_240_1585 (ay_args [.ref 0, .int v1, .ref 329] [] rfl rfl (Nat.le_of_ble_eq_true rfl) (Nat.le_of_ble_eq_true rfl)) rfl hw ?_
  refine ay_e_loc (pc := 1588) (L' := [some (.ref am_scr), some (.ref 0), some (.ref 321), some (.ref 329), some (.int i), some (.int k), none, none, none]) fe_240_1588 rfl ?_
  refine ay_e_loc (pc := 1590) fe_240_1590 rfl ?_
  refine ay_e_loc (pc := 1591) fe_240_1591 rfl ?_
  refine ay_e_loc (pc := 1592) fe_240_1592 rfl ?_
  refine ay_e_stk (pc := 1594) (S' := [.int 1, .int i, .ref am_scr, .ref 321]) fe_240_1594 rfl ?_
  refine ay_e_stk (pc := 1595) (S' := [.int (i + 1), .ref am_scr, .ref 321]) fe_240_1595 rfl ?_
  refine ay_e_scr (pc := 1596) (v := v1) fe_240_1596 q1 e1 ?_
  refine ay_e_call (pc := 1597) (v := some (.int b)) fe_240_1597 (ay_args [.ref 321, .int v1] [] rfl rfl (Nat.le_of_ble_eq_true rfl) (Nat.le_of_ble_eq_true rfl)) (ay_rcvV at_321 rfl) hm ?_
  refine ay_e_loc (pc := 1600) (L' := [some (.ref am_scr), some (.ref 0), some (.ref 321), some (.ref 329), some (.int i), some (.int k), some (.int b), none, none]) fe_240_1600 rfl ?_
  refine ay_e_loc (pc := 1602) fe_240_1602 rfl ?_
  refine ay_e_call (pc := 1603) (v := some (.int (D2 321 7))) fe_240_1603 (ay_args [.ref 321] [] rfl rfl (Nat.le_of_ble_eq_true rfl) (Nat.le_of_ble_eq_true rfl)) (ay_rcvV at_321 rfl) ay_m35 ?_
  refine ay_e_loc (pc := 1606) fe_240_1606 rfl ?_
  refine ay_e_pos (pc := 1608) ht fe_240_1608 rfl ?_
  refine ay_e_loc (pc := 1613) fe_240_1613 rfl ?_
  by_cases hk : k = 0
  · refine ay_e_neg (pc := 1615) (P := ¬ k = 0) (fun h => h hk) fe_240_1615 rfl ?_
    refine ay_e_loc (pc := 1618) fe_240_1618 rfl ?_
    refine ay_e_stk (pc := 1619) (S' := [.int 0, .ref 329]) fe_240_1619 rfl ?_
    refine ay_e_lal (pc := 1620) fe_240_1620 ?_
    refine ay_e_loc (pc := 1621) fe_240_1621 rfl ?_
    refine ay_e_stk (pc := 1623) (S' := [.long b.toInt64, .long (D2 329 0).toInt64]) fe_240_1623 rfl ?_
    refine ay_e_stk (pc := 1624) (S' := [.int (lg_cmp ((D2 329 0).toInt64) b.toInt64)]) fe_240_1624 rfl ?_
    refine ay_e_pos (pc := 1625) (P := lg_cmp (D2 329 0).toInt64 b.toInt64 = 0) (by rw [hz hk]; exact ay_cmp0 _) fe_240_1625 rfl ?_
    refine ay_e_br (pc := 1630) (pc' := 1743) fe_240_1630 rfl ?_
    refine ay_e_loc (pc := 1743) (L' := [some (.ref am_scr), some (.ref 0), some (.ref 321), some (.ref 329), some (.int (i + 4)), some (.int k), some (.int b), none, none]) fe_240_1743 rfl ?_
    refine ay_e_br (pc := 1746) (pc' := 23) fe_240_1746 rfl ?_
    exact ay_e_end fe_240_23 (by decide)
  · refine ay_e_pos (pc := 1615) (P := ¬ k = 0) hk fe_240_1615 rfl ?_
    refine ay_e_br (pc := 1630) (pc' := 1743) fe_240_1630 rfl ?_
    refine ay_e_loc (pc := 1743) (L' := [some (.ref am_scr), some (.ref 0), some (.ref 321), some (.ref 329), some (.int (i + 4)), some (.int k), some (.int b), none, none]) fe_240_1743 rfl ?_
    refine ay_e_br (pc := 1746) (pc' := 23) fe_240_1746 rfl ?_
    exact ay_e_end fe_240_23 (by decide)
set_option maxHeartbeats 2000000 in
theorem lw_26 {n : Nat} {xs : Nat → Int32} {i v0 v1 k b : Int32} {D D1 D2 : am_DD} {c1 s1 : Nat} (q0 : ¬ (i < 0 ∨ n ≤ i.toNatClampNeg)) (e0 : xs i.toNatClampNeg = v0) (q1 : ¬ ((i + 1) < 0 ∨ n ≤ (i + 1).toNatClampNeg)) (e1 : xs (i + 1).toNatClampNeg = v1) (hc : v0 &&& 31 = 26) (hw : ay_mc 230 [.ref 0, .int v1, .ref 329] D (some (.int k)) D1 c1 s1) (hm : ay_mo 231 [.ref 321, .int v1] D1 (.inl (some (.int b))) D2) (ht : D2 321 7 = k) (hz : k = 0 → D2 329 0 = b) : ay_lw n xs i D D2 c1 s1 := by
  refine ⟨some (.int k), some (.int b), none, none, ?_⟩
  refine ay_e_loc (pc := 32) fe_240_32 rfl ?_
  refine ay_e_loc (pc := 33) fe_240_33 rfl ?_
  refine ay_e_scr (pc := 35) (v := v0) fe_240_35 q0 e0 ?_
  refine ay_e_stk (pc := 36) (S' := [.int 31, .int v0]) fe_240_36 rfl ?_
  refine ay_e_stk (pc := 38) (S' := [.int (v0 &&& 31)]) fe_240_38 rfl ?_
  refine ay_e_br (pc := 39) (pc' := 1633) (S' := []) fe_240_39 (by rw [hc]; rfl) ?_
  refine ay_e_loc (pc := 1633) fe_240_1633 rfl ?_
  refine ay_e_loc (pc := 1634) fe_240_1634 rfl ?_
  refine ay_e_loc (pc := 1635) fe_240_1635 rfl ?_
  refine ay_e_stk (pc := 1637) (S' := [.int 1, .int i, .ref am_scr, .ref 0]) fe_240_1637 rfl ?_
  refine ay_e_stk (pc := 1638) (S' := [.int (i + 1), .ref am_scr, .ref 0]) fe_240_1638 rfl ?_
  refine ay_e_scr (pc := 1639) (v := v1) fe_240_1639 q1 e1 ?_
  refine ay_e_loc (pc := 1640) fe_240_1640 rfl ?_
  refine ay_e_callC (pc := 1641) (c := 0) (s := 0) fe_240_1641 (ay_args [.ref 0, .int v1, .ref 329] [] rfl rfl (Nat.le_of_ble_eq_true rfl) (Nat.le_of_ble_eq_true rfl)) rfl hw ?_
  refine ay_e_loc (pc := 1644) (L' := [some (.ref am_scr), some (.ref 0), some (.ref 321), some (.ref 329), some (.int i), some (.int k), none, none, none]) fe_240_1644 rfl ?_
  refine ay_e_loc (pc := 1646) fe_240_1646 rfl ?_
  refine ay_e_loc (pc := 1647) fe_240_1647 rfl ?_
  refine ay_e_loc (pc := 1648) fe_240_1648 rfl ?_
  refine ay_e_stk (pc := 1650) (S' := [.int 1, .int i, .ref am_scr, .ref 321]) fe_240_1650 rfl ?_
  refine ay_e_stk (pc := 1651) (S' := [.int (i + 1), .ref am_scr, .ref 321]) fe_240_1651 rfl ?_
  refine ay_e_scr (pc := 1652) (v := v1) fe_240_1652 q1 e1 ?_
  refine ay_e_call (pc := 1653) (v := some (.int b)) fe_240_1653 (ay_args [.ref 321, .int v1] [] rfl rfl (Nat.le_of_ble_eq_true rfl) (Nat.le_of_ble_eq_true rfl)) (ay_rcvV at_321 rfl) hm ?_
  refine ay_e_loc (pc := 1656) (L' := [some (.ref am_scr), some (.ref 0), some (.ref 321), some (.ref 329), some (.int i), some (.int k), some (.int b), none, none]) fe_240_1656 rfl ?_
  refine ay_e_loc (pc := 1658) fe_240_1658 rfl ?_
  refine ay_e_call (pc := 1659) (v := some (.int (D2 321 7))) fe_240_1659 (ay_args [.ref 321] [] rfl rfl (Nat.le_of_ble_eq_true rfl) (Nat.le_of_ble_eq_true rfl)) (ay_rcvV at_321 rfl) ay_m35 ?_
  refine ay_e_loc (pc := 1662) fe_240_1662 rfl ?_
  refine ay_e_pos (pc := 1664) ht fe_240_1664 rfl ?_
  refine ay_e_loc (pc := 1669) fe_240_1669 rfl ?_
  by_cases hk : k = 0
  · refine ay_e_neg (pc := 1671) (P := ¬ k = 0) (fun h => h hk) fe_240_1671 rfl ?_
    refine ay_e_loc (pc := 1674) fe_240_1674 rfl ?_
    refine ay_e_stk (pc := 1675) (S' := [.int 0, .ref 329]) fe_240_1675 rfl ?_
    refine ay_e_lal (pc := 1676) fe_240_1676 ?_
    refine ay_e_loc (pc := 1677) fe_240_1677 rfl ?_
    refine ay_e_stk (pc := 1679) (S' := [.long b.toInt64, .long (D2 329 0).toInt64]) fe_240_1679 rfl ?_
    refine ay_e_stk (pc := 1680) (S' := [.int (lg_cmp ((D2 329 0).toInt64) b.toInt64)]) fe_240_1680 rfl ?_
    refine ay_e_pos (pc := 1681) (P := lg_cmp (D2 329 0).toInt64 b.toInt64 = 0) (by rw [hz hk]; exact ay_cmp0 _) fe_240_1681 rfl ?_
    refine ay_e_br (pc := 1686) (pc' := 1743) fe_240_1686 rfl ?_
    refine ay_e_loc (pc := 1743) (L' := [some (.ref am_scr), some (.ref 0), some (.ref 321), some (.ref 329), some (.int (i + 4)), some (.int k), some (.int b), none, none]) fe_240_1743 rfl ?_
    refine ay_e_br (pc := 1746) (pc' := 23) fe_240_1746 rfl ?_
    exact ay_e_end fe_240_23 (by decide)
  · refine ay_e_pos (pc := 1671) (P := ¬ k = 0) hk fe_240_1671 rfl ?_
    refine ay_e_br (pc := 1686) (pc' := 1743) fe_240_1686 rfl ?_
    refine ay_e_loc (pc := 1743) (L' := [some (.ref am_scr), some (.ref 0), some (.ref 321), some (.ref 329), some (.int (i + 4)), some (.int k), some (.int b), none, none]) fe_240_1743 rfl ?_
    refine ay_e_br (pc := 1746) (pc' := 23) fe_240_1746 rfl ?_
    exact ay_e_end fe_240_23 (by decide)
set_option maxHeartbeats 2000000 in
theorem lw_9 {n : Nat} {xs : Nat → Int32} {i v0 y : Int32} {D D1 D2 : am_DD} (q0 : ¬ (i < 0 ∨ n ≤ i.toNatClampNeg)) (e0 : xs i.toNatClampNeg = v0) (hc : v0 &&& 31 = 9) (hw : ay_mo 102 [.ref 0] D (.inl (some (.int y))) D1) (hm : ay_mo 103 [.ref 321] D1 (.inl (some (.int y))) D2) : ay_lw n xs i D D2 0 0 := by
  refine ⟨none, none, none, none, ?_⟩
  refine ay_e_loc (pc := 32) fe_240_32 rfl ?_
  refine ay_e_loc (pc := 33) fe_240_33 rfl ?_
  refine ay_e_scr (pc := 35) (v := v0) fe_240_35 q0 e0 ?_
  refine ay_e_stk (pc := 36) (S' := [.int 31, .int v0]) fe_240_36 rfl ?_
  refine ay_e_stk (pc := 38) (S' := [.int (v0 &&& 31)]) fe_240_38 rfl ?_
  refine ay_e_br (pc := 39) (pc' := 720) (S' := []) fe_240_39 (by rw [hc]; rfl) ?_
  refine ay_e_loc (pc := 720) fe_240_720 rfl ?_
  refine ay_e_call (pc := 721) (v := some (.int y)) fe_240_721 (ay_args [.ref 0] [] rfl rfl (Nat.le_of_ble_eq_true rfl) (Nat.le_of_ble_eq_true rfl)) (ay_rcvV at_0 rfl) hw ?_
  refine ay_e_loc (pc := 724) fe_240_724 rfl ?_
  refine ay_e_call (pc := 725) (v := some (.int y)) fe_240_725 (ay_args [.ref 321] [.int y] rfl rfl (Nat.le_of_ble_eq_true rfl) (Nat.le_of_ble_eq_true rfl)) (ay_rcvV at_321 rfl) hm ?_
  refine ay_e_pos (pc := 728) (P := y = y) rfl fe_240_728 rfl ?_
  refine ay_e_loc (pc := 1743) (L' := [some (.ref am_scr), some (.ref 0), some (.ref 321), some (.ref 329), some (.int (i + 4)), none, none, none, none]) fe_240_1743 rfl ?_
  refine ay_e_br (pc := 1746) (pc' := 23) fe_240_1746 rfl ?_
  exact ay_e_end fe_240_23 (by decide)
set_option maxHeartbeats 2000000 in
theorem lw_10 {n : Nat} {xs : Nat → Int32} {i v0 y : Int32} {D D1 D2 : am_DD} (q0 : ¬ (i < 0 ∨ n ≤ i.toNatClampNeg)) (e0 : xs i.toNatClampNeg = v0) (hc : v0 &&& 31 = 10) (hw : ay_mo 118 [.ref 0] D (.inl (some (.int y))) D1) (hm : ay_mo 127 [.ref 321] D1 (.inl (some (.int y))) D2) : ay_lw n xs i D D2 0 0 := by
  refine ⟨none, none, none, none, ?_⟩
  refine ay_e_loc (pc := 32) fe_240_32 rfl ?_
  refine ay_e_loc (pc := 33) fe_240_33 rfl ?_
  refine ay_e_scr (pc := 35) (v := v0) fe_240_35 q0 e0 ?_
  refine ay_e_stk (pc := 36) (S' := [.int 31, .int v0]) fe_240_36 rfl ?_
  refine ay_e_stk (pc := 38) (S' := [.int (v0 &&& 31)]) fe_240_38 rfl ?_
  refine ay_e_br (pc := 39) (pc' := 733) (S' := []) fe_240_39 (by rw [hc]; rfl) ?_
  refine ay_e_loc (pc := 733) fe_240_733 rfl ?_
  refine ay_e_call (pc := 734) (v := some (.int y)) fe_240_734 (ay_args [.ref 0] [] rfl rfl (Nat.le_of_ble_eq_true rfl) (Nat.le_of_ble_eq_true rfl)) (ay_rcvV at_0 rfl) hw ?_
  refine ay_e_loc (pc := 737) fe_240_737 rfl ?_
  refine ay_e_call (pc := 738) (v := some (.int y)) fe_240_738 (ay_args [.ref 321] [.int y] rfl rfl (Nat.le_of_ble_eq_true rfl) (Nat.le_of_ble_eq_true rfl)) (ay_rcvV at_321 rfl) hm ?_
  refine ay_e_pos (pc := 741) (P := y = y) rfl fe_240_741 rfl ?_
  refine ay_e_loc (pc := 1743) (L' := [some (.ref am_scr), some (.ref 0), some (.ref 321), some (.ref 329), some (.int (i + 4)), none, none, none, none]) fe_240_1743 rfl ?_
  refine ay_e_br (pc := 1746) (pc' := 23) fe_240_1746 rfl ?_
  exact ay_e_end fe_240_23 (by decide)
set_option maxHeartbeats 2000000 in
theorem lw_27 {n : Nat} {xs : Nat → Int32} {i v0 y : Int32} {D D1 D2 : am_DD} (q0 : ¬ (i < 0 ∨ n ≤ i.toNatClampNeg)) (e0 : xs i.toNatClampNeg = v0) (hc : v0 &&& 31 = 27) (hw : ay_mo 234 [.ref 0] D (.inl (some (.int y))) D1) (hm : ay_mo 236 [.ref 321] D1 (.inl (some (.int y))) D2) : ay_lw n xs i D D2 0 0 := by
  refine ⟨none, none, none, none, ?_⟩
  refine ay_e_loc (pc := 32) fe_240_32 rfl ?_
  refine ay_e_loc (pc := 33) fe_240_33 rfl ?_
  refine ay_e_scr (pc := 35) (v := v0) fe_240_35 q0 e0 ?_
  refine ay_e_stk (pc := 36) (S' := [.int 31, .int v0]) fe_240_36 rfl ?_
  refine ay_e_stk (pc := 38) (S' := [.int (v0 &&& 31)]) fe_240_38 rfl ?_
  refine ay_e_br (pc := 39) (pc' := 1689) (S' := []) fe_240_39 (by rw [hc]; rfl) ?_
  refine ay_e_loc (pc := 1689) fe_240_1689 rfl ?_
  refine ay_e_call (pc := 1690) (v := some (.int y)) fe_240_1690 (ay_args [.ref 0] [] rfl rfl (Nat.le_of_ble_eq_true rfl) (Nat.le_of_ble_eq_true rfl)) (ay_rcvV at_0 rfl) hw ?_
  refine ay_e_loc (pc := 1693) fe_240_1693 rfl ?_
  refine ay_e_call (pc := 1694) (v := some (.int y)) fe_240_1694 (ay_args [.ref 321] [.int y] rfl rfl (Nat.le_of_ble_eq_true rfl) (Nat.le_of_ble_eq_true rfl)) (ay_rcvV at_321 rfl) hm ?_
  refine ay_e_pos (pc := 1697) (P := y = y) rfl fe_240_1697 rfl ?_
  refine ay_e_loc (pc := 1743) (L' := [some (.ref am_scr), some (.ref 0), some (.ref 321), some (.ref 329), some (.int (i + 4)), none, none, none, none]) fe_240_1743 rfl ?_
  refine ay_e_br (pc := 1746) (pc' := 23) fe_240_1746 rfl ?_
  exact ay_e_end fe_240_23 (by decide)
set_option maxHeartbeats 2000000 in
theorem lw_22 {n : Nat} {xs : Nat → Int32} {i v0 : Int32} {y : UInt32} {D D1 D2 : am_DD} (q0 : ¬ (i < 0 ∨ n ≤ i.toNatClampNeg)) (e0 : xs i.toNatClampNeg = v0) (hc : v0 &&& 31 = 22) (hw : ay_mo 208 [.ref 0] D (.inl (some (.float y))) D1) (hm : ay_mo 209 [.ref 321] D1 (.inl (some (.float y))) D2)
    (hf : FP.f2d y &&& 0x7fffffffffffffff ≤ 0x7ff0000000000000) (hd : Op.cmpValue (FP.dcmp (FP.f2d y) (FP.f2d y)) .l = 0) : ay_lw n xs i D D2 0 0 := by
  refine ⟨some (.double (FP.f2d y)), none, some (.double (FP.f2d y)), none, ?_⟩
  refine ay_e_loc (pc := 32) fe_240_32 rfl ?_
  refine ay_e_loc (pc := 33) fe_240_33 rfl ?_
  refine ay_e_scr (pc := 35) (v := v0) fe_240_35 q0 e0 ?_
  refine ay_e_stk (pc := 36) (S' := [.int 31, .int v0]) fe_240_36 rfl ?_
  refine ay_e_stk (pc := 38) (S' := [.int (v0 &&& 31)]) fe_240_38 rfl ?_
  refine ay_e_br (pc := 39) (pc' := 1386) (S' := []) fe_240_39 (by rw [hc]; rfl) ?_
  refine ay_e_loc (pc := 1386) fe_240_1386 rfl ?_
  refine ay_e_call (pc := 1387) (v := some (.float y)) fe_240_1387 (ay_args [.ref 0] [] rfl rfl (Nat.le_of_ble_eq_true rfl) (Nat.le_of_ble_eq_true rfl)) (ay_rcvV at_0 rfl) hw ?_
  refine ay_e_stk (pc := 1390) (S' := [.double (FP.f2d y)]) fe_240_1390 (if_pos hf) ?_
  refine ay_e_loc (pc := 1391) (L' := [some (.ref am_scr), some (.ref 0), some (.ref 321), some (.ref 329), some (.int i), some (.double (FP.f2d y)), none, none, none]) fe_240_1391 rfl ?_
  refine ay_e_loc (pc := 1393) fe_240_1393 rfl ?_
  refine ay_e_call (pc := 1394) (v := some (.float y)) fe_240_1394 (ay_args [.ref 321] [] rfl rfl (Nat.le_of_ble_eq_true rfl) (Nat.le_of_ble_eq_true rfl)) (ay_rcvV at_321 rfl) hm ?_
  refine ay_e_stk (pc := 1397) (S' := [.double (FP.f2d y)]) fe_240_1397 (if_pos hf) ?_
  refine ay_e_loc (pc := 1398) (L' := [some (.ref am_scr), some (.ref 0), some (.ref 321), some (.ref 329), some (.int i), some (.double (FP.f2d y)), none, some (.double (FP.f2d y)), none]) fe_240_1398 rfl ?_
  refine ay_e_loc (pc := 1400) fe_240_1400 rfl ?_
  refine ay_e_loc (pc := 1402) fe_240_1402 rfl ?_
  refine ay_e_stk (pc := 1404) (S' := [.int (Op.cmpValue (FP.dcmp (FP.f2d y) (FP.f2d y)) .l)]) fe_240_1404 rfl ?_
  refine ay_e_pos (pc := 1405) (P := Op.cmpValue (FP.dcmp (FP.f2d y) (FP.f2d y)) .l = 0) hd fe_240_1405 rfl ?_
  refine ay_e_br (pc := 1426) (pc' := 1743) fe_240_1426 rfl ?_
  refine ay_e_loc (pc := 1743) (L' := [some (.ref am_scr), some (.ref 0), some (.ref 321), some (.ref 329), some (.int (i + 4)), some (.double (FP.f2d y)), none, some (.double (FP.f2d y)), none]) fe_240_1743 rfl ?_
  refine ay_e_br (pc := 1746) (pc' := 23) fe_240_1746 rfl ?_
  exact ay_e_end fe_240_23 (by decide)
set_option maxHeartbeats 2000000 in
theorem lw_28 {n : Nat} {xs : Nat → Int32} {i v0 v1 y z : Int32} {D D1 D2 : am_DD} (q0 : ¬ (i < 0 ∨ n ≤ i.toNatClampNeg)) (e0 : xs i.toNatClampNeg = v0) (q1 : ¬ ((i + 1) < 0 ∨ n ≤ (i + 1).toNatClampNeg)) (e1 : xs (i + 1).toNatClampNeg = v1) (hc : v0 &&& 31 = 28) (hz : z = if v1 = 0 then 0 else 1) (hw : ay_mo 238 [.ref 0, .int z] D (.inl (some (.int y))) D1) (hm : ay_mo 239 [.ref 321, .int z] D1 (.inl (some (.int y))) D2) : ay_lw n xs i D D2 0 0 := by
  refine ⟨none, none, none, none, ?_⟩
  refine ay_e_loc (pc := 32) fe_240_32 rfl ?_
  refine ay_e_loc (pc := 33) fe_240_33 rfl ?_
  refine ay_e_scr (pc := 35) (v := v0) fe_240_35 q0 e0 ?_
  refine ay_e_stk (pc := 36) (S' := [.int 31, .int v0]) fe_240_36 rfl ?_
  refine ay_e_stk (pc := 38) (S' := [.int (v0 &&& 31)]) fe_240_38 rfl ?_
  refine ay_e_br (pc := 39) (pc' := 1702) (S' := []) fe_240_39 (by rw [hc]; rfl) ?_
  refine ay_e_loc (pc := 1702) fe_240_1702 rfl ?_
  refine ay_e_loc (pc := 1703) fe_240_1703 rfl ?_
  refine ay_e_loc (pc := 1704) fe_240_1704 rfl ?_
  refine ay_e_stk (pc := 1706) (S' := [.int 1, .int i, .ref am_scr, .ref 0]) fe_240_1706 rfl ?_
  refine ay_e_stk (pc := 1707) (S' := [.int (i + 1), .ref am_scr, .ref 0]) fe_240_1707 rfl ?_
  refine ay_e_scr (pc := 1708) (v := v1) fe_240_1708 q1 e1 ?_
  have tail : ay_ev (some (n, xs)) 240 1717 (ay_lL i) [.int z, .ref 0] D (23, [some (.ref am_scr), some (.ref 0), some (.ref 321), some (.ref 329), some (.int (i + 4)), none, none, none, none], []) D2 0 0 := by
    refine ay_e_call (pc := 1717) (v := some (.int y)) fe_240_1717 (ay_args [.ref 0, .int z] [] rfl rfl (Nat.le_of_ble_eq_true rfl) (Nat.le_of_ble_eq_true rfl)) (ay_rcvV at_0 rfl) hw ?_
    refine ay_e_loc (pc := 1720) fe_240_1720 rfl ?_
    refine ay_e_loc (pc := 1721) fe_240_1721 rfl ?_
    refine ay_e_loc (pc := 1722) fe_240_1722 rfl ?_
    refine ay_e_stk (pc := 1724) (S' := [.int 1, .int i, .ref am_scr, .ref 321, .int y]) fe_240_1724 rfl ?_
    refine ay_e_stk (pc := 1725) (S' := [.int (i + 1), .ref am_scr, .ref 321, .int y]) fe_240_1725 rfl ?_
    refine ay_e_scr (pc := 1726) (v := v1) fe_240_1726 q1 e1 ?_
    have tail2 : ay_ev (some (n, xs)) 240 1735 (ay_lL i) [.int z, .ref 321, .int y] D1 (23, [some (.ref am_scr), some (.ref 0), some (.ref 321), some (.ref 329), some (.int (i + 4)), none, none, none, none], []) D2 0 0 := by
      refine ay_e_call (pc := 1735) (v := some (.int y)) fe_240_1735 (ay_args [.ref 321, .int z] [.int y] rfl rfl (Nat.le_of_ble_eq_true rfl) (Nat.le_of_ble_eq_true rfl)) (ay_rcvV at_321 rfl) hm ?_
      refine ay_e_pos (pc := 1738) (P := y = y) rfl fe_240_1738 rfl ?_
      refine ay_e_loc (pc := 1743) (L' := [some (.ref am_scr), some (.ref 0), some (.ref 321), some (.ref 329), some (.int (i + 4)), none, none, none, none]) fe_240_1743 rfl ?_
      refine ay_e_br (pc := 1746) (pc' := 23) fe_240_1746 rfl ?_
      exact ay_e_end fe_240_23 (by decide)
    by_cases hv : v1 = 0
    · rw [if_pos hv] at hz
      subst hz
      refine ay_e_pos (pc := 1727) (P := v1 = 0) hv fe_240_1727 rfl ?_
      refine ay_e_stk (pc := 1734) (S' := [.int 0, .ref 321, .int y]) fe_240_1734 rfl ?_
      exact tail2
    · rw [if_neg hv] at hz
      subst hz
      refine ay_e_neg (pc := 1727) (P := v1 = 0) hv fe_240_1727 rfl ?_
      refine ay_e_stk (pc := 1730) (S' := [.int 1, .ref 321, .int y]) fe_240_1730 rfl ?_
      refine ay_e_br (pc := 1731) (pc' := 1735) fe_240_1731 rfl ?_
      exact tail2
  by_cases hv : v1 = 0
  · rw [if_pos hv] at hz
    subst hz
    refine ay_e_pos (pc := 1709) (P := v1 = 0) hv fe_240_1709 rfl ?_
    refine ay_e_stk (pc := 1716) (S' := [.int 0, .ref 0]) fe_240_1716 rfl ?_
    exact tail
  · rw [if_neg hv] at hz
    subst hz
    refine ay_e_neg (pc := 1709) (P := v1 = 0) hv fe_240_1709 rfl ?_
    refine ay_e_stk (pc := 1712) (S' := [.int 1, .ref 0]) fe_240_1712 rfl ?_
    refine ay_e_br (pc := 1713) (pc' := 1717) fe_240_1713 rfl ?_
    exact tail
set_option maxHeartbeats 2000000 in
theorem lw_none {n : Nat} {xs : Nat → Int32} {i v0 : Int32} {D : am_DD} (q0 : ¬ (i < 0 ∨ n ≤ i.toNatClampNeg)) (e0 : xs i.toNatClampNeg = v0) (hc : 28 < (v0 &&& 31).toInt) : ay_lw n xs i D D 0 0 := by
  refine ⟨none, none, none, none, ?_⟩
  refine ay_e_loc (pc := 32) fe_240_32 rfl ?_
  refine ay_e_loc (pc := 33) fe_240_33 rfl ?_
  refine ay_e_scr (pc := 35) (v := v0) fe_240_35 q0 e0 ?_
  refine ay_e_stk (pc := 36) (S' := [.int 31, .int v0]) fe_240_36 rfl ?_
  refine ay_e_stk (pc := 38) (S' := [.int (v0 &&& 31)]) fe_240_38 rfl ?_
  refine ay_e_br (pc := 39) (pc' := 1743) (S' := []) fe_240_39 (ay_tab_def (Or.inr hc) rfl) ?_
  refine ay_e_loc (pc := 1743) (L' := [some (.ref am_scr), some (.ref 0), some (.ref 321), some (.ref 329), some (.int (i + 4)), none, none, none, none]) fe_240_1743 rfl ?_
  refine ay_e_br (pc := 1746) (pc' := 23) fe_240_1746 rfl ?_
  exact ay_e_end fe_240_23 (by decide)
