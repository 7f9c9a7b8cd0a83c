/-! SOUNDNESS 3: a simple step -/
def xTs : List Cond := lw_tbl.filter goodWord
theorem xTs_in {w : Cond} (h : w ∈ lw_tbl) (hg : goodWord w = true) : w ∈ xTs := List.mem_filter.mpr ⟨h, hg⟩
def xcl (g : xG) (lv : xL) : List (Nat × Value) := lv.map (fun q => (q.1, xcv g q.2))
def xsz : xSh → Nat
  | .inl o => o.2.length
  | .inr a => a.2
def xsl (sh : xS) : Nat := (sh.map xsz).sum
def xrp (pc : Nat) : Nat := if 100000 ≤ pc then pc - 100000 else pc
theorem xrp_lt {pc : Nat} (h : pc < 100000) : xrp pc = pc := by unfold xrp; rw [if_neg (by omega)]
theorem xrp_nx {M : xT} {pc : Nat} (h : pc < 100000) : xrp (xnx M pc) = pc := by
  unfold xnx xrp
  cases (xfind M.2.2.1 pc).isSome with
  | true => rw [cond_true, if_pos (by omega)]; omega
  | false => rw [cond_false, if_neg (by omega)]
/-- the length of an instruction -/
def xlen : Instr → Nat
  | .aload _ => 2 | .iload _ => 2 | .lload _ => 2 | .astore _ => 2 | .istore _ => 2 | .lstore _ => 2
  | .bipush _ => 2 | .sipush _ => 3 | .ldc _ => 2 | .ldc_w _ => 3 | .ldc2_w _ => 3 | .iinc _ _ => 3 | .goto _ => 3 | .ifCond _ _ => 3 | .if_icmp _ _ => 3
  | .getfield _ => 3 | .putfield _ => 3 | .getstatic _ => 3 | .newarray _ => 2 | .new _ => 3 | .invokestatic _ => 3 | .invokevirtual _ => 3 | .invokespecial _ => 3
  | _ => 1
/-- a row of a method's table is right -/
def xen1 (pc : Nat) (i : Instr) (tgt : Nat) (cv : Int32) (cs : List (Int32 × Nat)) : Bool := match i with
  | .goto off => decide ((pc : Int) + off = (tgt : Int))
  | .ifCond _ off => decide ((pc : Int) + off = (tgt : Int))
  | .if_icmp _ off => decide ((pc : Int) + off = (tgt : Int))
  | .iconst n => decide (Int32.ofInt n = cv)
  | .bipush n => decide ((Int8.ofInt n).toInt32 = cv)
  | .sipush n => decide ((Int16.ofInt n).toInt32 = cv)
  | .iinc _ n => decide (Int32.ofInt n = cv)
  | .tableswitch d lo hi offs => decide ((pc : Int) + d = (tgt : Int)) && decide (cs.length = offs.size) && decide (hi + 1 = lo + (cs.length : Int)) && (List.range cs.length).all (fun j => decide ((cs.getD j (0, 0)).1.toInt = lo + (j : Int)) && decide ((pc : Int) + offs.getD j 0 = (((cs.getD j (0, 0)).2 : Nat) : Int)))
  | _ => true
def xen2 (i : Instr) (ln : Nat) : Bool := match i with
  | .tableswitch _ _ _ _ => true
  | _ => Nat.beq ln (xlen i)
def xen3 (nL : Nat) (i : Instr) : Bool := match i with
  | .istore j => decide (j < nL)
  | .astore j => decide (j < nL)
  | .lstore j => decide (j + 1 < nL)
  | .istore_n j => decide ((j : Nat) < nL)
  | .astore_n j => decide ((j : Nat) < nL)
  | .lstore_n j => decide ((j : Nat) + 1 < nL)
  | _ => true
def xenok (cc : ByteArray) (nL : Nat) (r : xEn) : Bool := xen3 nL r.2.1 && decide (decode cc r.1 = .ok (r.2.1, r.2.2.1)) && (Nat.ble (r.1 + r.2.2.1) 99999 && (Nat.ble r.2.2.2.1 99999 && (r.2.2.2.2.2.all (fun x => Nat.ble x.2 99999) && (xen1 r.1 r.2.1 r.2.2.2.1 r.2.2.2.2.1 r.2.2.2.2.2 && xen2 r.2.1 r.2.2.1))))
def xmok (cc : ByteArray) (nL : Nat) (M : xT) : Prop := (∀ ch ∈ M.2.1, ∀ r ∈ ch, xenok cc nL r = true) ∧ ∀ x ∈ M.2.2.1, x.1 < 100000
/-- what the tables mean -/
def xTF1 : Prop := ∀ own idx ci k ty fin, xfind (xFT.getD own []) idx = some (ci, k, ty, fin) → (∃ C T N, vwCl[ci]? = some (C, T, N) ∧ k < N ∧ Cond.fieldLink (xR own) idx (T k).1 (T k).2.1 (T k).2.2.1 ∈ xTs ∧ parseFieldDescriptor (T k).2.2.1 = some ty ∧ (T k).2.2.2 = fin) ∨ (ci = 100 ∧ ((k = 0 ∧ Cond.fieldLink (xR own) idx RJ0 "value" "[B" ∈ xTs) ∨ (k = 1 ∧ Cond.fieldLink (xR own) idx RJ0 "coder" "B" ∈ xTs)))
def xTF2 : Prop := ∀ ci C T N, vwCl[ci]? = some (C, T, N) → C = xR (ci + 1) ∧ (∀ w ∈ u_ws C T N, w ∈ xTs) ∧ (∃ ty0 : Nat → FieldType, ∀ k, k < N → parseFieldDescriptor (T k).2.2.1 = some (ty0 k)) ∧ (∀ a, a < N → ∀ b, b < N → a ≠ b → (T a).2.1 ≠ (T b).2.1) ∧ ∀ k, k < N → (T k).1 = C
def xTK1 : Prop := ∀ own idx v, xfind (xKT.getD own []) idx = some v → (∃ x, v = .int x ∧ Cond.constant (xR own) idx x ∈ xTs) ∨ (∃ x, v = .long x ∧ Cond.constantLong (xR own) idx x ∈ xTs) ∨ (∃ w, v = .retAddr w ∧ w < 16 ∧ own = 4 ∧ xsix.getD w 0 = idx)
def xTG1 : Prop := ∀ own idx v, xfind (xGT.getD own []) idx = some v → (v = .ref 1000 ∧ (Cond.fieldLink (xR own) idx RX5 "MOST_OF_RULE" "[I" ∈ xTs ∨ (own = 4 ∧ idx = 90))) ∨ (v = .ref 1001 ∧ Cond.fieldLink (xR own) idx RX0 "ABOVE" "[I" ∈ xTs) ∨ (v = .int 1 ∧ Cond.fieldLink (xR own) idx RJ0 "COMPACT_STRINGS" "Z" ∈ xTs) ∨ (v = .null ∧ Cond.fieldLink (xR own) idx RJ3 "SIOOBE_FORMATTER" "Ljava/util/function/BiFunction;" ∈ xTs)
def xTN1 : Prop := ∀ own idx ci tags, xfind (xNT.getD own []) idx = some (ci, tags) → ∃ C T N, vwCl[ci]? = some (C, T, N) ∧ tags.length = N ∧ N ≤ 90 ∧ Cond.classLink (xR own) idx C ∈ xTs ∧ Cond.instantiable C N ∈ xTs ∧ Cond.initialized C ∈ xTs ∧ (∀ k, k < N → ∃ ty, parseFieldDescriptor (T k).2.2.1 = some ty ∧ defaultValue ty = (match tags.getD k 2 with | 0 => .int 0 | 1 => .long 0 | _ => .null) ∧ tags.getD k 2 ≤ 2) ∧ Cond.arrayClass .int ∈ xTs ∧ Cond.arrayClass .char ∈ xTs
def xTW1 : Prop := Cond.arrayClass .int ∈ xTs ∧ Cond.arrayClass .char ∈ xTs ∧ Cond.native arraycopyName ∈ xTs ∧ Cond.static arraycopyName ∈ xTs ∧ Cond.initialized "java/lang/System" ∈ xTs ∧ Cond.instanceMethod objectInit ∈ xTs ∧ Cond.code objectInit ⟨#[0xb1]⟩ 1 none ∈ xTs ∧ Cond.initialized "java/lang/Math" ∈ xTs ∧ (Cond.static Lib.Math.max.name ∈ xTs ∧ Cond.code Lib.Math.max.name Lib.Math.max.code 2 (some .int) ∈ xTs) ∧ (Cond.static Lib.Math.min.name ∈ xTs ∧ Cond.code Lib.Math.min.name Lib.Math.min.code 2 (some .int) ∈ xTs) ∧ (Cond.static Lib.MathLoose.max_long.x ∈ xTs ∧ Cond.code Lib.MathLoose.max_long.x Lib.MathLoose.max_long.code 4 (some .long) ∈ xTs)
abbrev xYt : Type := List (MethodName × ByteArray × Nat)
def xnm (y : MethodName) (n : Nat) : Prop := y.cls ≠ "java/lang/invoke/MethodHandle" ∧ y.cls ≠ "java/lang/invoke/VarHandle" ∧ (parseMethodDescriptor y.desc).map (fun d => d.parameters.length) = some n
def xlnk (own idx : Nat) (y : MethodName) : Prop := Cond.methodLink (xR own) idx y ∈ xTs ∨ ∃ host, Cond.methodLinkNest (xR own) idx y host ∈ xNWm
def xTC1 (Y : xYt) : Prop := ∀ own idx kind k n rcv, xfind (xCT.getD own []) idx = some (kind, k, n, rcv) →
  (kind = 0 ∧ k + 1 ≠ xMT.length ∧ rcv = 0 ∧ ∃ y cc mL, xnth Y k = some (y, cc, mL) ∧ xnm y n ∧ Cond.static y ∈ xTs ∧ Cond.initialized y.cls ∈ xTs ∧ xlnk own idx y) ∨
  (kind = 1 ∧ k + 1 ≠ xMT.length ∧ ∃ y cc mL n1, xnth Y k = some (y, cc, mL) ∧ n = n1 + 1 ∧ xnm y n1 ∧ Cond.methodLink (xR own) idx y ∈ xTs ∧ Cond.instanceMethod y ∈ xTs ∧ Cond.selects y.cls y y ∈ xTs ∧ Cond.initialized y.cls ∈ xTs ∧ ((∃ ci, rcv = ci + 1 ∧ ci ≠ 100 ∧ ∃ T N, vwCl[ci]? = some (y.cls, T, N)) ∨ (rcv = 101 ∧ y.cls = RJ0))) ∨
  (kind = 2 ∧ k + 1 ≠ xMT.length ∧ (∃ M', xnth xMT k = some M' ∧ M'.2.2.2.1 = none) ∧ ∃ y cc mL n1, xnth Y k = some (y, cc, mL) ∧ n = n1 + 1 ∧ xnm y n1 ∧ y.name = "<init>" ∧ Cond.instanceMethod y ∈ xTs ∧ Cond.initialized y.cls ∈ xTs ∧ xlnk own idx y ∧ 1 ≤ rcv ∧ rcv ≤ 6) ∨
  (kind = 3 ∧ Cond.methodLink (xR own) idx arraycopyName ∈ xTs) ∨ (kind = 4 ∧ Cond.methodLink (xR own) idx objectInit ∈ xTs) ∨
  (kind = 5 ∧ Cond.methodLink (xR own) idx Lib.Math.max.name ∈ xTs) ∨ (kind = 6 ∧ Cond.methodLink (xR own) idx Lib.Math.min.name ∈ xTs) ∨ (kind = 7 ∧ Cond.methodLink (xR own) idx Lib.MathLoose.max_long.x ∈ xTs)
def xTM1 (Y : xYt) : Prop := ∀ k M, xnth xMT k = some M → ∃ y cc mL, xnth Y k = some (y, cc, mL) ∧ y.cls = xR M.1 ∧ (k + 1 = xMT.length ∨ plainName y.cls = true ∧ Cond.code y cc mL M.2.2.2.1 ∈ xTs) ∧ mL ≤ 21 ∧ mL = M.2.2.2.2.2 ∧ xmok cc mL M ∧ (M.2.2.2.2.1 = true → y.name = "<init>")
def xTab (Y : xYt) : Prop := xTF1 ∧ xTF2 ∧ xTK1 ∧ xTG1 ∧ xTN1 ∧ xTW1 ∧ xTC1 Y ∧ xTM1 Y
/-- what holds all through a method's run -/
def xFrm (g : xG) (X : xX) (p : Program) (s : State) (m : MethodId) (args : Array Value) (meth : Method) (c : Code) (R : Room) (cc : ByteArray) (nL : Nat) (M : xT) : Prop :=
  p.tables.exec = Jvm.exec ∧ c.code = cc ∧ c.maxLocals = nL ∧ s.vm.findClass (xR M.1) = some m.cls ∧ (∀ w ∈ xTs, w.before args s = true) ∧ xKK g s ∧ xST g X s s.heap ∧ g_a g ≤ s.heap.size ∧ (M.2.2.2.2.1 = true → meth.name = "<init>") ∧ xmok cc nL M ∧ 1 ≤ R.frames ∧ 40 ≤ R.locals
def xJ (p : Program) (l : Launch) (e : Env) (R : Room) (s : State) (m : MethodId) (args : Array Value) (below : List Frame) (meth : Method) (c : Code) (Q : State → Prop) (g : xG) (nL n0 m0 : Nat) (σ : xM) : xC → Prop
  | (pc, lv, st, sh, o, lg) => ∀ (H : Heap) (locs : List Loc) (cells slots : Nat) (ls : Array Slot), xWd g sh (xget o σ) lg H → va_S (g_A g) s.heap H locs → lv_has ls nL (xcl g lv) → cells + n0 = sh.length → slots + m0 = xsl sh → W p l e R s m args below meth c H locs cells slots Q (F0 m (xrp pc) ls (st.map (xcv g)))
theorem xcv_cat (g : xG) (hf : g_f g = .null ∨ ∃ a, g_f g = .ref a) (v : Value) : (xcv g v).category = v.category := by
  cases v with
  | ref q =>
    simp only [xcv]
    split
    · rfl
    · split <;> rfl
  | null => rcases hf with h | ⟨a, h⟩ <;> (show (g_f g).category = _; rw [h]; try rfl)
  | _ => rfl
theorem lv_less {ls : Array Slot} {nL : Nat} {a b : List (Nat × Value)} (h : lv_has ls nL a) (hs : ∀ q ∈ b, q ∈ a) : lv_has ls nL b := ⟨h.1, h.2.1, fun q hq => h.2.2 q (hs q hq)⟩
theorem xcl_mem {g : xG} {lv : xL} {i : Nat} {v : Value} (h : (i, v) ∈ lv) : (i, xcv g v) ∈ xcl g lv := List.mem_map.mpr ⟨_, h, rfl⟩
theorem xcl_at {g : xG} {lv : xL} {ls : Array Slot} {nL i : Nat} {v : Value} (h : lv_has ls nL (xcl g lv)) (hf : xfind lv i = some v) : ls[i]? = some (.val (xcv g v)) := h.2.2 _ (xcl_mem (xfind_mem hf))
theorem xkeep_sub : ∀ (lv : xL) (ks : List Nat), ∀ q ∈ xkeep lv ks, q ∈ lv := by
  intro lv
  induction lv with
  | nil => intro ks q h; cases h
  | cons e lv ih =>
    obtain ⟨j, v⟩ := e
    intro ks q h
    rw [xkeep] at h
    cases hm : xmem ks j with
    | true =>
      rw [hm, cond_true] at h
      rcases List.mem_cons.mp h with rfl | h
      · exact List.mem_cons_self
      · exact List.mem_cons_of_mem _ (ih ks q h)
    | false =>
      rw [hm, cond_false] at h
      exact List.mem_cons_of_mem _ (ih ks q h)
theorem xlins_mem : ∀ (lv : xL) (i : Nat) (v : Value), ∀ q ∈ xlins lv i v, q = (i, v) ∨ q ∈ lv := by
  intro lv
  induction lv with
  | nil => intro i v q h; exact Or.inl (List.mem_singleton.mp h)
  | cons e lv ih =>
    obtain ⟨j, w⟩ := e
    intro i v q h
    rw [xlins] at h
    cases hb : Nat.ble j i with
    | true =>
      rw [hb, cond_true] at h
      rcases List.mem_cons.mp h with rfl | h
      · exact Or.inr List.mem_cons_self
      · rcases ih i v q h with h | h
        · exact Or.inl h
        · exact Or.inr (List.mem_cons_of_mem _ h)
    | false =>
      rw [hb, cond_false] at h
      rcases List.mem_cons.mp h with h | h
      · exact Or.inl h
      · exact Or.inr h
theorem xls1_sub {g : xG} (hf : g_f g = .null ∨ ∃ a, g_f g = .ref a) {lv : xL} {i : Nat} {v : Value} : ∀ q ∈ xcl g (xls1 lv i v), q ∈ (i, xcv g v) :: (xcl g lv).filter (fun q => !(q.1 == i) && !(q.1 + 1 == i && q.2.category == 2)) := by
  intro q hq
  obtain ⟨r, hr, rfl⟩ := List.mem_map.mp hq
  rcases xlins_mem _ _ _ r hr with rfl | h
  · exact List.mem_cons_self
  · obtain ⟨h1, h2⟩ := List.mem_filter.mp h
    refine List.mem_cons_of_mem _ (List.mem_filter.mpr ⟨xcl_mem h1, ?_⟩)
    simpa [xcv_cat g hf] using h2
theorem xls2_sub {g : xG} (hf : g_f g = .null ∨ ∃ a, g_f g = .ref a) {lv : xL} {i : Nat} {v : Value} : ∀ q ∈ xcl g (xls2 lv i v), q ∈ (i, xcv g v) :: (xcl g lv).filter (fun q => !(q.1 == i) && (!(q.1 == i + 1) && !(q.1 + 1 == i && q.2.category == 2))) := by
  intro q hq
  obtain ⟨r, hr, rfl⟩ := List.mem_map.mp hq
  rcases xlins_mem _ _ _ r hr with rfl | h
  · exact List.mem_cons_self
  · obtain ⟨h1, h2⟩ := List.mem_filter.mp h
    refine List.mem_cons_of_mem _ (List.mem_filter.mpr ⟨xcl_mem h1, ?_⟩)
    simpa [xcv_cat g hf] using h2
/-! what a step's success says of the stack -/
theorem xin2_inv {M : xT} {f : Int32 → Int32 → Int32} {pc : Nat} {lv : xL} {sh : xS} {o : xO} {lg : Int64} {st : List Value} {a : xAc} (h : xin2 M f pc lv sh o lg st = some a) : ∃ x y r, st = .int y :: .int x :: r ∧ xgt M pc lv (.int (f x y) :: r) sh o lg = some a := by
  unfold xin2 at h
  split at h
  · exact ⟨_, _, _, rfl, h⟩
  · cases h
theorem xin1_inv {M : xT} {f : Int32 → Int32} {pc : Nat} {lv : xL} {sh : xS} {o : xO} {lg : Int64} {st : List Value} {a : xAc} (h : xin1 M f pc lv sh o lg st = some a) : ∃ x r, st = .int x :: r ∧ xgt M pc lv (.int (f x) :: r) sh o lg = some a := by
  unfold xin1 at h
  split at h
  · exact ⟨_, _, rfl, h⟩
  · cases h
theorem xln2_inv {M : xT} {f : Int64 → Int64 → Int64} {pc : Nat} {lv : xL} {sh : xS} {o : xO} {lg : Int64} {st : List Value} {a : xAc} (h : xln2 M f pc lv sh o lg st = some a) : ∃ x y r, st = .long y :: .long x :: r ∧ xgt M pc lv (.long (f x y) :: r) sh o lg = some a := by
  unfold xln2 at h
  split at h
  · exact ⟨_, _, _, rfl, h⟩
  · cases h
theorem xind_inv {M : xT} {f : Int32 → Int32 → Int32} {pc : Nat} {lv : xL} {sh : xS} {o : xO} {lg : Int64} {st : List Value} {a : xAc} (h : xind M f pc lv sh o lg st = some a) : ∃ x y r, st = .int y :: .int x :: r ∧ ¬ y = 0 ∧ xgt M pc lv (.int (f x y) :: r) sh o lg = some a := by
  unfold xind at h
  split at h
  · obtain ⟨h1, h2⟩ := x_iteN h
    exact ⟨_, _, _, rfl, h1, h2⟩
  · cases h
theorem xlnd_inv {M : xT} {f : Int64 → Int64 → Int64} {pc : Nat} {lv : xL} {sh : xS} {o : xO} {lg : Int64} {st : List Value} {a : xAc} (h : xlnd M f pc lv sh o lg st = some a) : ∃ x y r, st = .long y :: .long x :: r ∧ ¬ y = 0 ∧ xgt M pc lv (.long (f x y) :: r) sh o lg = some a := by
  unfold xlnd at h
  split at h
  · obtain ⟨h1, h2⟩ := x_iteN h
    exact ⟨_, _, _, rfl, h1, h2⟩
  · cases h
theorem xld_inv {M : xT} {kd i pc : Nat} {lv : xL} {sh : xS} {o : xO} {lg : Int64} {st : List Value} {a : xAc} (g : xG) (h : xld M kd i pc lv st sh o lg = some a) : ∃ v, xfind lv i = some v ∧ xgt M pc lv (v :: st) sh o lg = some a ∧ ((kd = 0 ∧ ∃ x, v = .int x) ∨ (kd = 1 ∧ ∃ x, v = .long x) ∨ (kd = 2 ∧ ∃ q, xcv g v = .ref q)) := by
  unfold xld at h
  split at h
  · rename_i x hx; exact ⟨_, hx, h, Or.inl ⟨rfl, _, rfl⟩⟩
  · rename_i x hx; exact ⟨_, hx, h, Or.inr (Or.inl ⟨rfl, _, rfl⟩)⟩
  · rename_i q hx
    refine ⟨_, hx, h, Or.inr (Or.inr ⟨rfl, ?_⟩)⟩
    simp only [xcv]
    split
    · exact ⟨_, rfl⟩
    · split <;> exact ⟨_, rfl⟩
  · rename_i q hx; exact ⟨_, hx, h, Or.inr (Or.inr ⟨rfl, _, rfl⟩)⟩
  · rename_i q hx; exact ⟨_, hx, h, Or.inr (Or.inr ⟨rfl, _, rfl⟩)⟩
  · cases h
