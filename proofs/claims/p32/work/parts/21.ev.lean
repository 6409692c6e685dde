/-! running on the finished skeleton: ay_ev; a method that returns: ay_mt, that throws: ay_mx -/
theorem ay_mono : ∀ (n k : Nat) (al : Bool) (scr : Option Nat) (i pc : Nat) (L : am_LL) (S : List Value) (SK : List am_SC) (D : am_DD) (o : am_R × List am_SC × am_DD × Nat × Nat), am_run al n scr i pc L S SK D = some o → am_run al (n + k) scr i pc L S SK D = some o := by
  intro n
  induction n with
  | zero => intro k al scr i pc L S SK D o h; cases h
  | succ n ih =>
    intro k al scr i pc L S SK D o h
    rw [show n + 1 + k = (n + k) + 1 by omega]
    rw [am_run] at h ⊢
    cases hf : am_fetch i pc with
    | none => rw [hf] at h; cases h
    | some q =>
      obtain ⟨ins, len, g, a, b⟩ := q
      rw [hf] at h
      dsimp only at h ⊢
      by_cases h8 : 8 ≤ g
      · rw [if_pos h8] at h ⊢; exact h
      · rw [if_neg h8] at h ⊢
        by_cases h7 : g = 7
        · rw [if_pos h7] at h ⊢
          cases hA : am_args a S with
          | none => rw [hA] at h; cases h
          | some z =>
            obtain ⟨As, S1⟩ := z
            rw [hA] at h
            dsimp only at h ⊢
            by_cases hr : am_rcv ins a As SK = false
            · rw [if_pos hr] at h; cases h
            · rw [if_neg hr] at h ⊢
              cases hc : am_run al n scr a 0 (am_L0 a As) [] SK D with
              | none => rw [hc] at h; cases h
              | some z =>
                obtain ⟨r, SK1, D1, c1, s1⟩ := z
                rw [hc] at h
                rw [ih k _ _ _ _ _ _ _ _ _ hc]
                dsimp only at h ⊢
                cases he : am_end a r with
                | none => rw [he] at h; cases h
                | some z =>
                  rw [he] at h
                  cases z with
                  | inl v =>
                    dsimp only at h ⊢
                    cases hk : am_run al n scr i (pc + 3) L (v.toList ++ S1) SK1 D1 with
                    | none => rw [hk] at h; cases h
                    | some z =>
                      rw [hk] at h
                      rw [ih k _ _ _ _ _ _ _ _ _ hk]
                      exact h
                  | inr E =>
                    dsimp only at h ⊢
                    by_cases hal : al = true
                    · rw [if_pos hal] at h; cases h
                    · rw [if_neg hal] at h ⊢
                      cases hh : am_hnd i pc E with
                      | none => rw [hh] at h; cases h
                      | some z =>
                        obtain ⟨t, kk⟩ := z
                        rw [hh] at h
                        dsimp only at h ⊢
                        by_cases hcl : am_clear L kk = false
                        · rw [if_pos hcl] at h; cases h
                        · rw [if_neg hcl] at h ⊢
                          cases hk : am_run al n scr i t (L.set kk none) [] SK1 D1 with
                          | none => rw [hk] at h; cases h
                          | some z =>
                            rw [hk] at h
                            rw [ih k _ _ _ _ _ _ _ _ _ hk]
                            exact h
        · rw [if_neg h7] at h ⊢
          cases hst : am_step al scr ins len g a b pc L S SK D with
          | none => rw [hst] at h; cases h
          | some z =>
            obtain ⟨pc', L', S', SK', D', c1, s1⟩ := z
            rw [hst] at h
            dsimp only at h ⊢
            cases hk : am_run al n scr i pc' L' S' SK' D' with
            | none => rw [hk] at h; cases h
            | some z =>
              rw [hk] at h
              rw [ih k _ _ _ _ _ _ _ _ _ hk]
              exact h
def ay_ev (scr : Option Nat) (i pc : Nat) (L : am_LL) (S : List Value) (D : am_DD) (r : am_R) (D' : am_DD) (c s : Nat) : Prop := ∃ n, am_run false n scr i pc L S ay_SK D = some (r, ay_SK, D', c, s)
/-- from here, a method's frame comes to its end o: returned with a value, or thrown -/
def ay_to (i pc : Nat) (L : am_LL) (S : List Value) (D : am_DD) (o : Option Value ⊕ Nat) (D' : am_DD) : Prop := ∀ scr : Option Nat, ∃ r, ay_ev scr i pc L S D r D' 0 0 ∧ am_end i r = some o
def ay_mo (a : Nat) (As : List Value) (D : am_DD) (o : Option Value ⊕ Nat) (D' : am_DD) : Prop := ay_to a 0 (am_L0 a As) [] D o D'
def ay_oc (y : Int32) : Nat → Option Value ⊕ Nat
  | 0 => .inl (some (.int y))
  | E + 1 => .inr E
def am_F : Nat := 100000
theorem ay_m_of {j : Nat} {As : List Value} {L : am_LL} {D Z : am_DD} {o : Option Value ⊕ Nat} (hL : am_L0 j As = L) (k : ay_to j 0 L [] D o Z) : ay_mo j As D o Z := by
  unfold ay_mo
  rw [hL]
  exact k
section AYE
variable {scr : Option Nat} {i pc len g a b pc' c s : Nat} {ins : Instr} {L L' : am_LL} {S S' S1 As : List Value} {D D' D1 D2 : am_DD} {r : am_R} {v : Option Value} {E t k : Nat} {o : Option Value ⊕ Nat}
theorem ay_e_end (hf : am_fetch i pc = some (ins, len, g, a, b)) (h8 : 8 ≤ g) : ay_ev scr i pc L S D (pc, L, S) D 0 0 := ⟨1, by rw [am_run, hf]; simp only [if_pos h8]⟩
theorem ay_e_step (hf : am_fetch i pc = some (ins, len, g, a, b)) (h8 : ¬ 8 ≤ g) (h7 : ¬ g = 7) (hst : am_step false scr ins len g a b pc L S ay_SK D = some (pc', L', S', ay_SK, D', 0, 0)) (kk : ay_ev scr i pc' L' S' D' r D2 c s) : ay_ev scr i pc L S D r D2 c s := by
  obtain ⟨n, hn⟩ := kk
  exact ⟨n + 1, by rw [am_run, hf]; simp only [if_neg h8, if_neg h7, hst, hn, Nat.zero_add]⟩
theorem ay_e_stk (hf : am_fetch i pc = some (ins, len, 0, a, b)) (h : am_stk ins S = some S') (kk : ay_ev scr i (pc + len) L S' D r D2 c s) : ay_ev scr i pc L S D r D2 c s := ay_e_step hf (by decide) (by decide) (by simp only [am_step, h]) kk
theorem ay_e_loc (hf : am_fetch i pc = some (ins, len, 1, a, b)) (h : am_loc ins L S = some (L', S')) (kk : ay_ev scr i (pc + len) L' S' D r D2 c s) : ay_ev scr i pc L S D r D2 c s := ay_e_step hf (by decide) (by decide) (by simp only [am_step, h]) kk
theorem ay_e_br (hf : am_fetch i pc = some (ins, len, 2, a, b)) (h : am_br ins a pc S = some (pc', S')) (kk : ay_ev scr i pc' L S' D r D2 c s) : ay_ev scr i pc L S D r D2 c s := ay_e_step hf (by decide) (by decide) (by simp only [am_step, h]) kk
theorem ay_e_rd (hf : am_fetch i pc = some (ins, len, 3, a, b)) (h : am_rd scr ins a b S ay_SK D = some S') (kk : ay_ev scr i (pc + len) L S' D r D2 c s) : ay_ev scr i pc L S D r D2 c s := ay_e_step hf (by decide) (by decide) (by simp only [am_step, h]) kk
theorem ay_e_wr (hf : am_fetch i pc = some (ins, len, 4, a, b)) (h : am_wr false scr ins a b S ay_SK D = some (S', ay_SK, D')) (kk : ay_ev scr i (pc + len) L S' D' r D2 c s) : ay_ev scr i pc L S D r D2 c s := ay_e_step hf (by decide) (by decide) (by simp only [am_step, h]) kk
theorem ay_e_lib (hf : am_fetch i pc = some (ins, len, 6, a, b)) (h : am_lib a b S ay_SK D = some (S', D')) (kk : ay_ev scr i (pc + len) L S' D' r D2 c s) : ay_ev scr i pc L S D r D2 c s := ay_e_step hf (by decide) (by decide) (by simp only [am_step, h]) kk
theorem ay_e_call (hf : am_fetch i pc = some (ins, len, 7, a, b)) (hA : am_args a S = some (As, S1)) (hr : am_rcv ins a As ay_SK = true) (hm : ay_mo a As D (.inl v) D1) (kk : ay_ev scr i (pc + 3) L (v.toList ++ S1) D1 r D2 c s) : ay_ev scr i pc L S D r D2 c s := by
  obtain ⟨r1, ⟨n1, h1⟩, he⟩ := hm scr
  obtain ⟨n2, h2⟩ := kk
  have h3 := ay_mono n1 n2 _ _ _ _ _ _ _ _ _ h1
  have h4 := ay_mono n2 n1 _ _ _ _ _ _ _ _ _ h2
  rw [Nat.add_comm] at h4
  refine ⟨(n1 + n2) + 1, ?_⟩
  rw [am_run, hf]
  simp only [show ¬ 8 ≤ 7 by decide, if_false, if_true, hA, hr, h3, he, h4, Nat.zero_add]
  rfl
theorem ay_e_callX (hf : am_fetch i pc = some (ins, len, 7, a, b)) (hA : am_args a S = some (As, S1)) (hr : am_rcv ins a As ay_SK = true) (hm : ay_mo a As D (.inr E) D1) (hh : am_hnd i pc E = some (t, k)) (hcl : am_clear L k = true) (kk : ay_ev scr i t (L.set k none) [] D1 r D2 c s) : ay_ev scr i pc L S D r D2 (0 + 1 + c) (0 + 6 + s) := by
  obtain ⟨r1, ⟨n1, h1⟩, he⟩ := hm scr
  obtain ⟨n2, h2⟩ := kk
  have h3 := ay_mono n1 n2 _ _ _ _ _ _ _ _ _ h1
  have h4 := ay_mono n2 n1 _ _ _ _ _ _ _ _ _ h2
  rw [Nat.add_comm] at h4
  refine ⟨(n1 + n2) + 1, ?_⟩
  rw [am_run, hf]
  simp only [show ¬ 8 ≤ 7 by decide, if_false, if_true, hA, hr, h3, he, hh, hcl, h4]
  rfl
/-! the same, to the end -/
theorem ay_t_ret (hf : am_fetch i pc = some (ins, len, g, a, b)) (h8 : 8 ≤ g) (he : am_end i (pc, L, S) = some o) : ay_to i pc L S D o D := fun _ => ⟨_, ay_e_end hf h8, he⟩
theorem ay_t_stk (hf : am_fetch i pc = some (ins, len, 0, a, b)) (h : am_stk ins S = some S') (kk : ay_to i (pc + len) L S' D o D2) : ay_to i pc L S D o D2 := fun scr => let ⟨r, h1, h2⟩ := kk scr; ⟨r, ay_e_stk hf h h1, h2⟩
theorem ay_t_loc (hf : am_fetch i pc = some (ins, len, 1, a, b)) (h : am_loc ins L S = some (L', S')) (kk : ay_to i (pc + len) L' S' D o D2) : ay_to i pc L S D o D2 := fun scr => let ⟨r, h1, h2⟩ := kk scr; ⟨r, ay_e_loc hf h h1, h2⟩
theorem ay_t_br (hf : am_fetch i pc = some (ins, len, 2, a, b)) (h : am_br ins a pc S = some (pc', S')) (kk : ay_to i pc' L S' D o D2) : ay_to i pc L S D o D2 := fun scr => let ⟨r, h1, h2⟩ := kk scr; ⟨r, ay_e_br hf h h1, h2⟩
theorem ay_t_rd (hf : am_fetch i pc = some (ins, len, 3, a, b)) (h : ∀ scr : Option Nat, am_rd scr ins a b S ay_SK D = some S') (kk : ay_to i (pc + len) L S' D o D2) : ay_to i pc L S D o D2 := fun scr => let ⟨r, h1, h2⟩ := kk scr; ⟨r, ay_e_rd hf (h scr) h1, h2⟩
theorem ay_t_wr (hf : am_fetch i pc = some (ins, len, 4, a, b)) (h : ∀ scr : Option Nat, am_wr false scr ins a b S ay_SK D = some (S', ay_SK, D')) (kk : ay_to i (pc + len) L S' D' o D2) : ay_to i pc L S D o D2 := fun scr => let ⟨r, h1, h2⟩ := kk scr; ⟨r, ay_e_wr hf (h scr) h1, h2⟩
theorem ay_t_lib (hf : am_fetch i pc = some (ins, len, 6, a, b)) (h : am_lib a b S ay_SK D = some (S', D')) (kk : ay_to i (pc + len) L S' D' o D2) : ay_to i pc L S D o D2 := fun scr => let ⟨r, h1, h2⟩ := kk scr; ⟨r, ay_e_lib hf h h1, h2⟩
theorem ay_t_call {w : Option Value} (hf : am_fetch i pc = some (ins, len, 7, a, b)) (hA : am_args a S = some (As, S1)) (hr : am_rcv ins a As ay_SK = true) (hm : ay_mo a As D (.inl w) D1) (kk : ay_to i (pc + 3) L (w.toList ++ S1) D1 o D2) : ay_to i pc L S D o D2 := fun scr => let ⟨r, h1, h2⟩ := kk scr; ⟨r, ay_e_call hf hA hr hm h1, h2⟩
theorem ay_t_pos {P : Prop} [Decidable P] (hP : P) (hf : am_fetch i pc = some (ins, len, 2, a, b)) (h : am_br ins a pc S = am_go (decide P) a pc S') (k1 : ay_to i a L S' D o D2) : ay_to i pc L S D o D2 := ay_t_br hf (by rw [h, decide_eq_true hP]; rfl) k1
theorem ay_t_neg {P : Prop} [Decidable P] (hP : ¬ P) (hf : am_fetch i pc = some (ins, len, 2, a, b)) (h : am_br ins a pc S = am_go (decide P) a pc S') (k1 : ay_to i (pc + 3) L S' D o D2) : ay_to i pc L S D o D2 := ay_t_br hf (by rw [h, decide_eq_false hP]; rfl) k1
theorem ay_t_getI {q idx ci : Nat} {fs : List (Option Value)} (hf : am_fetch i pc = some (.getfield idx, len, 3, a, b)) (hat : am_at ay_SK q = some (.inl (ci, fs))) (hc : ci = a % 100 ∧ b < (am_cls (a % 100)).2.2) (hv : fs[b]? = some none) (kk : ay_to i (pc + len) L (.int (D q b) :: S) D o D2) : ay_to i pc L (.ref q :: S) D o D2 :=
  ay_t_rd hf (fun scr => by simp only [am_rd, hat, if_pos hc, hv]) kk
theorem ay_t_getR {q idx ci : Nat} {w : Value} {fs : List (Option Value)} (hf : am_fetch i pc = some (.getfield idx, len, 3, a, b)) (hat : am_at ay_SK q = some (.inl (ci, fs))) (hc : ci = a % 100 ∧ b < (am_cls (a % 100)).2.2) (hv : fs[b]? = some (some w)) (kk : ay_to i (pc + len) L (w :: S) D o D2) : ay_to i pc L (.ref q :: S) D o D2 :=
  ay_t_rd hf (fun scr => by simp only [am_rd, hat, if_pos hc, hv]) kk
theorem ay_t_put {q idx ci : Nat} {x : Int32} {fs : List (Option Value)} (hf : am_fetch i pc = some (.putfield idx, len, 4, a, b)) (hat : am_at ay_SK q = some (.inl (ci, fs))) (hc : ci = a % 100 ∧ b < (am_cls (a % 100)).2.2) (hv : fs[b]? = some none) (ht : am_ty (a % 100) b = .int) (kk : ay_to i (pc + len) L S (am_upd D q b x) o D2) : ay_to i pc L (.int x :: .ref q :: S) D o D2 :=
  ay_t_wr hf (fun scr => by simp only [am_wr, hat, if_pos hc, hv, if_pos ht]) kk
theorem ay_t_iaload {q n : Nat} {x : Int32} {z : List (Option Nat)} (hf : am_fetch i pc = some (.iaload, len, 3, a, b)) (hat : am_at ay_SK q = some (.inr (0, n, z))) (hq : ¬ q = am_scr) (hb : ¬ (x < 0 ∨ n ≤ x.toNatClampNeg)) (kk : ay_to i (pc + len) L (.int (D q x.toNatClampNeg) :: S) D o D2) : ay_to i pc L (.int x :: .ref q :: S) D o D2 :=
  ay_t_rd hf (fun scr => by simp only [am_rd, hat, if_neg hq, if_neg hb]) kk
theorem ay_t_iastore {q n : Nat} {x y : Int32} {z : List (Option Nat)} (hf : am_fetch i pc = some (.iastore, len, 4, a, b)) (hat : am_at ay_SK q = some (.inr (0, n, z))) (hb : ¬ (x < 0 ∨ n ≤ x.toNatClampNeg)) (kk : ay_to i (pc + len) L S (am_upd D q x.toNatClampNeg y) o D2) : ay_to i pc L (.int y :: .int x :: .ref q :: S) D o D2 :=
  ay_t_wr hf (fun scr => by simp only [am_wr, hat, if_neg (am_at_spec hat).2, if_neg hb]) kk
theorem ay_t_alen {q n kd : Nat} {z : List (Option Nat)} (hf : am_fetch i pc = some (.arraylength, len, 3, a, b)) (hat : am_at ay_SK q = some (.inr (kd, n, z))) (kk : ay_to i (pc + len) L (.int (Int32.ofNat n) :: S) D o D2) : ay_to i pc L (.ref q :: S) D o D2 :=
  ay_t_rd hf (fun scr => by simp only [am_rd, hat]) kk
theorem ay_idiv {x y : Int32} (h : ¬ y = 0) : am_stk .idiv (.int y :: .int x :: S) = some (.int (x / y) :: S) := by simp only [am_stk, if_neg h]
theorem ay_irem {x y : Int32} (h : ¬ y = 0) : am_stk .irem (.int y :: .int x :: S) = some (.int (x - x / y * y) :: S) := by simp only [am_stk, if_neg h]
theorem ay_rcvV {idx q ci j : Nat} {fs : List (Option Value)} (hat : am_at ay_SK q = some (.inl (ci, fs))) (h : ci = am_ci j) : am_rcv (.invokevirtual idx) j (.ref q :: As) ay_SK = true := by simp only [am_rcv, hat, h, decide_true]
theorem ay_t_iret {x : Int32} {ty : FieldType} (hf : am_fetch i pc = some (.ireturn, len, 8, a, b)) (hr : am_ret i = some ty) (hn : narrow ty (.int x) = .int x) : ay_to i pc L [.int x] D (.inl (some (.int x))) D := ay_t_ret hf (by decide) (by simp [am_end, hf, hr, hn])
def ay_isb (y : Int32) : Bool := decide (y &&& 1 = y)
theorem ay_t_zret {x : Int32} (hf : am_fetch i pc = some (.ireturn, len, 8, a, b)) (hr : am_ret i = some .boolean) (hn : ay_isb x = true) : ay_to i pc L [.int x] D (.inl (some (.int x))) D := ay_t_iret hf hr (by
  have h : x &&& 1 = x := of_decide_eq_true hn
  show Value.int (x &&& 1) = .int x
  rw [h])
theorem ay_t_vret (hf : am_fetch i pc = some (.return_, len, 8, a, b)) (hr : am_ret i = none) : ay_to i pc L [] D (.inl none) D := ay_t_ret hf (by decide) (by simp [am_end, hf, hr])
theorem ay_t_fret {x : UInt32} (hf : am_fetch i pc = some (.freturn, len, 8, a, b)) (hr : am_ret i = some .float) : ay_to i pc L [.float x] D (.inl (some (.float x))) D := ay_t_ret hf (by decide) (by simp [am_end, hf, hr])
theorem ay_t_thr (hf : am_fetch i pc = some (ins, len, 9, a, b)) (hw : am_words S ≤ 8) : ay_to i pc L S D (.inr a) D := ay_t_ret hf (by decide) (by simp [am_end, hf, hw])
theorem ay_tab_def {x : Int32} {d lo hi : Int} {offs : Array Int} (h : x.toInt < lo ∨ hi < x.toInt) (hj : am_jump pc d S = some (pc', S)) : am_br (.tableswitch d lo hi offs) a pc (.int x :: S) = some (pc', S) := by simp only [am_br, if_pos h, hj]
theorem ay_ne_toInt {x : Int32} {c : Int} (h : ¬ x = Int32.ofInt c) (hc : (Int32.ofInt c).toInt = c) : ¬ x.toInt = c := fun e => h (Int32.toInt_inj.mp (e.trans hc.symm))
end AYE
/-- the arguments of a call, from the top of the stack -/
theorem ay_args {j : Nat} (As S1 : List Value) (hn : am_np j = As.length) (hc : (As.all (fun v => v.category == 1)) = true) (hm : As.length ≤ am_mL j) (hw : am_words S1 ≤ 8) : am_args j (As.reverse ++ S1) = some (As, S1) := by
  have e1 : (As.reverse ++ S1).take (am_np j) = As.reverse := by rw [hn, ← List.length_reverse, List.take_left']; rfl
  have e2 : (As.reverse ++ S1).drop (am_np j) = S1 := by rw [hn, ← List.length_reverse, List.drop_left']; rfl
  unfold am_args
  rw [e1, e2, if_pos, List.reverse_reverse]
  refine ⟨by rw [hn, List.length_append, List.length_reverse]; exact Nat.le_add_right _ _, hw, fun v hv => ?_, by rw [hn]; exact hm⟩
  exact beq_iff_eq.mp (List.all_eq_true.mp hc v (List.mem_reverse.mp hv))
/-! fewer known locals are enough -/
def ay_le (L L' : am_LL) : Prop := L'.length = L.length ∧ (∀ (j : Nat) (v : Value), L[j]? = some (some v) → L'[j]? = some (some v)) ∧ ∀ (j : Nat) (v : Value), L'[j]? = some (some v) → L[j]? = some (some v) ∨ v.category = 1
theorem ay_le_get {L L' : am_LL} (h : ay_le L L') {j : Nat} {v : Value} (hv : L.getD j none = some v) : L'.getD j none = some v := by
  rw [List.getD_eq_getElem?_getD, h.2.1 j v (am_getD hv)]
  rfl
theorem ay_le_clear {L L' : am_LL} (h : ay_le L L') {j : Nat} (hc : am_clear L j = true) : am_clear L' j = true := by
  cases j with
  | zero => rfl
  | succ j =>
    unfold am_clear at hc ⊢
    dsimp only at hc ⊢
    cases hv : L'.getD j none with
    | none => rfl
    | some w =>
      dsimp only
      have h1 := am_getD hv
      rcases h.2.2 j w h1 with h2 | h2
      · rw [List.getD_eq_getElem?_getD, h2] at hc
        exact hc
      · exact decide_eq_true h2
theorem ay_le_set {L L' : am_LL} (h : ay_le L L') (j : Nat) (o : Option Value) : ay_le (L.set j o) (L'.set j o) := by
  refine ⟨by rw [List.length_set, List.length_set]; exact h.1, fun k v hk => ?_, fun k v hk => ?_⟩
  · rw [List.getElem?_set] at hk ⊢
    by_cases e : j = k
    · rw [if_pos e] at hk ⊢
      rw [h.1]
      exact hk
    · rw [if_neg e] at hk ⊢
      exact h.2.1 k v hk
  · rw [List.getElem?_set] at hk ⊢
    by_cases e : j = k
    · rw [if_pos e] at hk ⊢
      rw [h.1] at hk
      exact Or.inl hk
    · rw [if_neg e] at hk ⊢
      exact h.2.2 k v hk
theorem ay_le_rf (L : am_LL) : ay_le L L := ⟨rfl, fun _ _ h => h, fun _ _ h => Or.inl h⟩
theorem ay_le_st1 {L L' L2 : am_LL} {j : Nat} {v : Value} (h : ay_le L L') (hs : am_st1 L j v = some L2) : ∃ L2', am_st1 L' j v = some L2' ∧ ay_le L2 L2' := by
  unfold am_st1 at hs
  split at hs
  next hc =>
    cases hs
    refine ⟨L'.set j (some v), ?_, ay_le_set h _ _⟩
    unfold am_st1
    rw [if_pos ⟨by rw [h.1]; exact hc.1, hc.2.1, ay_le_clear h hc.2.2⟩]
  next => cases hs
theorem ay_le_st2 {L L' L2 : am_LL} {j : Nat} {v : Value} (h : ay_le L L') (hs : am_st2 L j v = some L2) : ∃ L2', am_st2 L' j v = some L2' ∧ ay_le L2 L2' := by
  unfold am_st2 at hs
  split at hs
  next hc =>
    cases hs
    refine ⟨(L'.set j (some v)).set (j + 1) none, ?_, ay_le_set (ay_le_set h _ _) _ _⟩
    unfold am_st2
    rw [if_pos ⟨by rw [h.1]; exact hc.1, hc.2.1, ay_le_clear h hc.2.2⟩]
  next => cases hs
theorem ay_le_ld {f : Value → Bool} {L L' L2 : am_LL} {j : Nat} {S S2 : List Value} (h : ay_le L L') (hs : am_ld f L j S = some (L2, S2)) : L2 = L ∧ am_ld f L' j S = some (L', S2) := by
  unfold am_ld at hs
  split at hs
  next v hv =>
    split at hs
    next hf =>
      cases hs
      refine ⟨rfl, ?_⟩
      unfold am_ld
      rw [ay_le_get h hv]
      simp only [hf, if_true]
    next => cases hs
  next => cases hs
theorem ay_le_map {β : Type} {L L' : Option am_LL} {S S2 : β} {L2 : am_LL} (h : L.map (fun x => (x, S)) = some (L2, S2)) : L = some L2 ∧ S2 = S := by
  cases L with
  | none => cases h
  | some x => cases h; exact ⟨rfl, rfl⟩
set_option maxHeartbeats 2000000 in
theorem ay_le_loc {ins : Instr} {L L' L2 : am_LL} {S S2 : List Value} (h : ay_le L L') (hs : am_loc ins L S = some (L2, S2)) : ∃ L2', am_loc ins L' S = some (L2', S2) ∧ ay_le L2 L2' := by
  unfold am_loc at hs
  split at hs
  · obtain ⟨rfl, h1⟩ := ay_le_ld h hs; exact ⟨L', h1, h⟩
  · obtain ⟨rfl, h1⟩ := ay_le_ld h hs; exact ⟨L', h1, h⟩
  · obtain ⟨rfl, h1⟩ := ay_le_ld h hs; exact ⟨L', h1, h⟩
  · obtain ⟨rfl, h1⟩ := ay_le_ld h hs; exact ⟨L', h1, h⟩
  · obtain ⟨rfl, h1⟩ := ay_le_ld h hs; exact ⟨L', h1, h⟩
  · obtain ⟨rfl, h1⟩ := ay_le_ld h hs; exact ⟨L', h1, h⟩
  · obtain ⟨z, h1, h2⟩ := Option.map_eq_some_iff.mp hs; cases h2; obtain ⟨L3, h3, h4⟩ := ay_le_st1 h h1; exact ⟨L3, by simp only [am_loc, h3, Option.map_some], h4⟩
  · obtain ⟨z, h1, h2⟩ := Option.map_eq_some_iff.mp hs; cases h2; obtain ⟨L3, h3, h4⟩ := ay_le_st1 h h1; exact ⟨L3, by simp only [am_loc, h3, Option.map_some], h4⟩
  · obtain ⟨z, h1, h2⟩ := Option.map_eq_some_iff.mp hs; cases h2; obtain ⟨L3, h3, h4⟩ := ay_le_st1 h h1; exact ⟨L3, by simp only [am_loc, h3, Option.map_some], h4⟩
  · obtain ⟨z, h1, h2⟩ := Option.map_eq_some_iff.mp hs; cases h2; obtain ⟨L3, h3, h4⟩ := ay_le_st1 h h1; exact ⟨L3, by simp only [am_loc, h3, Option.map_some], h4⟩
  · obtain ⟨z, h1, h2⟩ := Option.map_eq_some_iff.mp hs; cases h2; obtain ⟨L3, h3, h4⟩ := ay_le_st2 h h1; exact ⟨L3, by simp only [am_loc, h3, Option.map_some], h4⟩
  · obtain ⟨z, h1, h2⟩ := Option.map_eq_some_iff.mp hs; cases h2; obtain ⟨L3, h3, h4⟩ := ay_le_st2 h h1; exact ⟨L3, by simp only [am_loc, h3, Option.map_some], h4⟩
  · split at hs
    next x hx =>
      obtain ⟨z, h1, h2⟩ := Option.map_eq_some_iff.mp hs
      cases h2
      obtain ⟨L3, h3, h4⟩ := ay_le_st1 h h1
      exact ⟨L3, by simp only [am_loc, ay_le_get h hx, h3, Option.map_some], h4⟩
    next => cases hs
  · cases hs
theorem ay_le_step {al : Bool} {scr : Option Nat} {ins : Instr} {len g a b pc pc' c s : Nat} {L L' L2 : am_LL} {S S2 : List Value} {SK SK2 : List am_SC} {D D2 : am_DD} (h : ay_le L L') (hs : am_step al scr ins len g a b pc L S SK D = some (pc', L2, S2, SK2, D2, c, s)) : ∃ L2', am_step al scr ins len g a b pc L' S SK D = some (pc', L2', S2, SK2, D2, c, s) ∧ ay_le L2 L2' := by
  unfold am_step at hs
  split at hs
  · split at hs
    next z hz => cases hs; exact ⟨L', by simp only [am_step, hz], h⟩
    next => cases hs
  · split at hs
    next z1 z2 hz =>
      cases hs
      obtain ⟨L3, h3, h4⟩ := ay_le_loc h hz
      exact ⟨L3, by simp only [am_step, h3], h4⟩
    next => cases hs
  · split at hs
    next z1 z2 hz => cases hs; exact ⟨L', by simp only [am_step, hz], h⟩
    next => cases hs
  · split at hs
    next z hz => cases hs; exact ⟨L', by simp only [am_step, hz], h⟩
    next => cases hs
  · split at hs
    next z1 z2 z3 hz => cases hs; exact ⟨L', by simp only [am_step, hz], h⟩
    next => cases hs
  · split at hs
    next z1 z2 z3 hz => cases hs; exact ⟨L', by simp only [am_step, hz], h⟩
    next => cases hs
  · split at hs
    next z1 z2 hz => cases hs; exact ⟨L', by simp only [am_step, hz], h⟩
    next => cases hs
  · cases hs
theorem ay_le_run : ∀ (n : Nat) (al : Bool) (scr : Option Nat) (i pc : Nat) (L L' : am_LL) (S : List Value) (SK : List am_SC) (D : am_DD) (r : am_R) (SK2 : List am_SC) (D2 : am_DD) (c s : Nat), ay_le L L' → am_run al n scr i pc L S SK D = some (r, SK2, D2, c, s) → ∃ L2', am_run al n scr i pc L' S SK D = some ((r.1, L2', r.2.2), SK2, D2, c, s) ∧ ay_le r.2.1 L2' := by
  intro n
  induction n with
  | zero => intro al scr i pc L L' S SK D r SK2 D2 c s hl h; cases h
  | succ n ih =>
    intro al scr i pc L L' S SK D r SK2 D2 c s hl h
    rw [am_run] at h
    cases hf : am_fetch i pc with
    | none => rw [hf] at h; cases h
    | some q =>
      obtain ⟨ins, len, g, a, b⟩ := q
      rw [hf] at h
      dsimp only at h
      by_cases h8 : 8 ≤ g
      · rw [if_pos h8] at h
        cases h
        exact ⟨L', by rw [am_run, hf]; simp only [if_pos h8], hl⟩
      · rw [if_neg h8] at h
        by_cases h7 : g = 7
        · rw [if_pos h7] at h
          cases hA : am_args a S with
          | none => rw [hA] at h; cases h
          | some z =>
            obtain ⟨As, S1⟩ := z
            rw [hA] at h
            dsimp only at h
            by_cases hr : am_rcv ins a As SK = false
            · rw [if_pos hr] at h; cases h
            · rw [if_neg hr] at h
              cases hc : am_run al n scr a 0 (am_L0 a As) [] SK D with
              | none => rw [hc] at h; cases h
              | some z =>
                obtain ⟨r1, SK1, D1, c1, s1⟩ := z
                rw [hc] at h
                dsimp only at h
                cases he : am_end a r1 with
                | none => rw [he] at h; cases h
                | some z =>
                  rw [he] at h
                  cases z with
                  | inl v =>
                    dsimp only at h
                    cases hk : am_run al n scr i (pc + 3) L (v.toList ++ S1) SK1 D1 with
                    | none => rw [hk] at h; cases h
                    | some z =>
                      obtain ⟨r2, SK3, D3, c3, s3⟩ := z
                      rw [hk] at h
                      cases h
                      obtain ⟨L3, h3, h4⟩ := ih _ _ _ _ _ _ _ _ _ _ _ _ _ _ hl hk
                      exact ⟨L3, by rw [am_run, hf]; simp only [if_neg h8, if_pos h7, hA, if_neg hr, hc, he, h3], h4⟩
                  | inr E =>
                    dsimp only at h
                    by_cases hal : al = true
                    · rw [if_pos hal] at h; cases h
                    · rw [if_neg hal] at h
                      cases hh : am_hnd i pc E with
                      | none => rw [hh] at h; cases h
                      | some z =>
                        obtain ⟨t, kk⟩ := z
                        rw [hh] at h
                        dsimp only at h
                        by_cases hcl : am_clear L kk = false
                        · rw [if_pos hcl] at h; cases h
                        · rw [if_neg hcl] at h
                          have hcl2 : ¬ am_clear L' kk = false := by
                            have : am_clear L kk = true := by
                              cases hq : am_clear L kk with
                              | true => rfl
                              | false => exact absurd hq hcl
                            rw [ay_le_clear hl this]
                            decide
                          cases hk : am_run al n scr i t (L.set kk none) [] SK1 D1 with
                          | none => rw [hk] at h; cases h
                          | some z =>
                            obtain ⟨r2, SK3, D3, c3, s3⟩ := z
                            rw [hk] at h
                            cases h
                            obtain ⟨L3, h3, h4⟩ := ih _ _ _ _ _ _ _ _ _ _ _ _ _ _ (ay_le_set hl kk none) hk
                            exact ⟨L3, by rw [am_run, hf]; simp only [if_neg h8, if_pos h7, hA, if_neg hr, hc, he, if_neg hal, hh, if_neg hcl2, h3], h4⟩
        · rw [if_neg h7] at h
          cases hst : am_step al scr ins len g a b pc L S SK D with
          | none => rw [hst] at h; cases h
          | some z =>
            obtain ⟨pc', L1, S', SK', D', c1, s1⟩ := z
            rw [hst] at h
            dsimp only at h
            cases hk : am_run al n scr i pc' L1 S' SK' D' with
            | none => rw [hk] at h; cases h
            | some z =>
              obtain ⟨r2, SK3, D3, c3, s3⟩ := z
              rw [hk] at h
              cases h
              obtain ⟨L3, h3, h4⟩ := ay_le_step hl hst
              obtain ⟨L4, h5, h6⟩ := ih _ _ _ _ _ _ _ _ _ _ _ _ _ _ h4 hk
              exact ⟨L4, by rw [am_run, hf]; simp only [if_neg h8, if_neg h7, h3, h5], h6⟩
theorem ay_end_le {i pc : Nat} {L L' : am_LL} {S : List Value} : am_end i (pc, L', S) = am_end i (pc, L, S) := rfl
/-- locals that are forgotten -/
theorem ay_t_less {i pc : Nat} {L L' : am_LL} {S : List Value} {D D2 : am_DD} {o : Option Value ⊕ Nat} (h : ay_le L L') (kk : ay_to i pc L S D o D2) : ay_to i pc L' S D o D2 := by
  intro scr
  obtain ⟨r, ⟨n, hn⟩, he⟩ := kk scr
  obtain ⟨L2, h1, -⟩ := ay_le_run n _ _ _ _ _ _ _ _ _ _ _ _ _ _ h hn
  exact ⟨_, ⟨n, h1⟩, he⟩
theorem ay_l0 : ay_le [] [] := ay_le_rf []
theorem ay_ls {L L' : am_LL} {o : Option Value} (h : ay_le L L') : ay_le (o :: L) (o :: L') := by
  refine ⟨by rw [List.length_cons, List.length_cons, h.1], fun j v hj => ?_, fun j v hj => ?_⟩
  · cases j with
    | zero => exact hj
    | succ j => exact h.2.1 j v hj
  · cases j with
    | zero => exact Or.inl hj
    | succ j => exact h.2.2 j v hj
theorem ay_ln {L L' : am_LL} {x : Int32} (h : ay_le L L') : ay_le (none :: L) (some (.int x) :: L') := by
  refine ⟨by rw [List.length_cons, List.length_cons, h.1], fun j v hj => ?_, fun j v hj => ?_⟩
  · cases j with
    | zero => simp at hj
    | succ j => exact h.2.1 j v hj
  · cases j with
    | zero => simp at hj; subst hj; exact Or.inr rfl
    | succ j => exact h.2.2 j v hj
theorem ay_lr {L L' : am_LL} {x : Nat} (h : ay_le L L') : ay_le (none :: L) (some (.ref x) :: L') := by
  refine ⟨by rw [List.length_cons, List.length_cons, h.1], fun j v hj => ?_, fun j v hj => ?_⟩
  · cases j with
    | zero => simp at hj
    | succ j => exact h.2.1 j v hj
  · cases j with
    | zero => simp at hj; subst hj; exact Or.inr rfl
    | succ j => exact h.2.2 j v hj
